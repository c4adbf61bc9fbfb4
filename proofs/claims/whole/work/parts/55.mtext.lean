/-! The reference reads the text: its cells at, isWell, and what one step does to them. -/
def sgnN (bb : Nat → Nat) (nb i : Nat) : Nat := if i < nb then bb i else 0
/-- a step: well, if it was and the sign fits; then a place on -/
def TS (v v' : Nat → Int32) (ta : Nat) (w : Bool) : Prop := v' 3 = nI (if w = true then ta + 1 else ta) ∧ v' 4 = bI w ∧ ∀ k, ¬ k = 3 → ¬ k = 4 → v' k = v k
theorem TS.t {v : Nat → Int32} {ta : Nat} {w : Bool} (h : w = true) : TS v (va_up (va_up v 3 (nI (ta + 1))) 4 (nI 1)) ta w := by
  subst h; exact ⟨rfl, rfl, fun k a b => (if_neg b).trans (if_neg a)⟩
theorem TS.f {v : Nat → Int32} {ta : Nat} {w : Bool} (h : w = false) : TS v (va_up (va_up v 3 (nI (ta + 0))) 4 (nI 0)) ta w := by
  subst h; exact ⟨rfl, rfl, fun k a b => (if_neg b).trans (if_neg a)⟩
def dgQ (w : Bool) (x z : Nat) : Bool := w && (decide (48 ≤ x) && decide (x ≤ z))
def plM (x : Nat) : Nat := if x = 110 then 0 else if x = 101 then 1 else if x = 115 then 2 else 3
abbrev rm_X9_sign : Room := { frames := 0, cells := 0, slots := 0, locals := 0 }
theorem k_X9_sign : Cal yX9_sign wsX9_sign rm_X9_sign cX9_sign 1 (some .int) 0 0 0 := ⟨⟨_, rfl⟩, rfl, rfl, by decide +kernel⟩
set_option maxHeartbeats 4000000 in
set_option maxRecDepth 100000 in
theorem m_X9_sign (l : Launch) (Γ : Gm) (a : Nat → Nat) (v : Nat → Int32) (hs : Int64) (g : Nat → Nat → Int32) (nb : Nat) (bb : Nat → Nat) (h2 : v 2 = nI nb) (hBR : BR nb bb (g 2)) (ta : Nat) (hta : ta ≤ nb) (h3 : v 3 = nI ta)  : MRi l yX9_sign wsX9_sign rm_X9_sign Γ (wMd Γ a v hs g) [.ref (a 0)] (fun r => r = nI (sgnN bb nb ta)) := by
  refine mR (cc := cX9_sign) (maxL := 1) (ret := (some .int)) (own := RX9) (by decide) rfl rfl (Nat.le_of_ble_eq_true rfl) ?_
  intro p e s m args below meth c S hrt hlk hK hP ls hl
  obtain ⟨hx, hb, hml, hown, hts⟩ := id S
  have hn6 := hBR.1
  have hl : lv_has ls 1 [(0, .ref (a 0))] := hl
  have hP : gP Γ (wMd Γ a v hs g) s.heap := hP
  refine lv_aload_n hx hb dX9_sign_0 rfl (lv_at hl 0 rfl) ?_
  refine va_get (D := Γ.1) (ci := 9) (v := .int (v 3)) (C := RX9) (T := TX9) (N := 11) hx hb hts (by decide +kernel) hown hK hP 0 rfl rfl 6 (by decide) (hts (.fieldLink RX9 120 "RowVeilsModel" "at" "I") (by decide +kernel)) (fun _ h9 => h9) rfl dX9_sign_1 ?_
  refine asi (z := nI ta) (h3) ?_
  refine lv_aload_n hx hb dX9_sign_4 rfl (lv_at hl 0 rfl) ?_
  refine va_get (D := Γ.1) (ci := 9) (v := .int (v 2)) (C := RX9) (T := TX9) (N := 11) hx hb hts (by decide +kernel) hown hK hP 0 rfl rfl 5 (by decide) (hts (.fieldLink RX9 117 "RowVeilsModel" "length" "I") (by decide +kernel)) (fun _ h9 => h9) rfl dX9_sign_5 ?_
  refine asi (z := nI nb) (h2) ?_
  refine lv_icmp_ge (tgt := 23) hx hb dX9_sign_8 (by decide) (fun c_8 => ?_) (fun c_8 => ?_)
  · have n_8 := (nI_leI (a := nb) (b := ta) (by omega) (by omega)).mp c_8
    refine lv_iconst (v := nI 0) hx hb dX9_sign_23 (by decide) ?_
    exact W.iret (v := nI 0) hx hb hrt (fun t9 ht9 hW9 => ⟨_, rfl, by unfold sgnN; rw [if_neg (by omega)], ht9⟩) (fun _ h9 => nomatch h9) dX9_sign_24 hlk
  · have n_8 := (not_congr (nI_leI (a := nb) (b := ta) (by omega) (by omega))).mp c_8
    refine lv_aload_n hx hb dX9_sign_11 rfl (lv_at hl 0 rfl) ?_
    refine va_get (D := Γ.1) (ci := 9) (v := .ref (a 3)) (C := RX9) (T := TX9) (N := 11) hx hb hts (by decide +kernel) hown hK hP 0 rfl rfl 4 (by decide) (hts (.fieldLink RX9 16 "RowVeilsModel" "buffer" "[I") (by decide +kernel)) (fun _ h9 => h9) rfl dX9_sign_12 ?_
    refine lv_aload_n hx hb dX9_sign_15 rfl (lv_at hl 0 rfl) ?_
    refine va_get (D := Γ.1) (ci := 9) (v := .int (v 3)) (C := RX9) (T := TX9) (N := 11) hx hb hts (by decide +kernel) hown hK hP 0 rfl rfl 6 (by decide) (hts (.fieldLink RX9 120 "RowVeilsModel" "at" "I") (by decide +kernel)) (fun _ h9 => h9) rfl dX9_sign_16 ?_
    refine asi (z := nI ta) (h3) ?_
    refine va_iald hx hb hK hP 3 0 rfl rfl (vp_in_nI (by omega) (by omega)) dX9_sign_19 ?_
    refine asi (z := nI (bb ta)) ((congrArg _ (nI_clamp (by omega))).trans ((hBR.2 _ (by omega)).1)) ?_
    refine lv_goto (tgt := 24) hx hb dX9_sign_20 (by decide) ?_
    exact W.iret (v := nI (bb ta)) hx hb hrt (fun t9 ht9 hW9 => ⟨_, rfl, by unfold sgnN; rw [if_pos (by omega)], ht9⟩) (fun _ h9 => nomatch h9) dX9_sign_24 hlk

abbrev rm_X9_digit : Room := { frames := 1, cells := 0, slots := 0, locals := 22 }
theorem k_X9_digit : Cal yX9_digit wsX9_digit rm_X9_digit cX9_digit 3 (some .int) 1 0 0 := ⟨⟨_, rfl⟩, rfl, rfl, by decide +kernel⟩
set_option maxHeartbeats 4000000 in
set_option maxRecDepth 100000 in
theorem m_X9_digit (l : Launch) (Γ : Gm) (sz : Nat) (a : Nat → Nat) (v : Nat → Int32) (hs : Int64) (g : Nat → Nat → Int32) (nb : Nat) (bb : Nat → Nat) (h2 : v 2 = nI nb) (hBR : BR nb bb (g 2)) (ta : Nat) (hta : ta ≤ nb) (h3 : v 3 = nI ta) (w : Bool) (h4 : v 4 = bI w) (zz : Nat) (hzz : zz < 127) : MWi (S := WtM) l yX9_digit wsX9_digit rm_X9_digit Γ sz (wMd Γ a v hs g) [.ref (a 0), .int (nI zz)] (fun r u => r = nI (sgnN bb nb ta) - nI 48 ∧ TS v u.1 ta (dgQ w (sgnN bb nb ta) zz) ∧ u.2 = (hs, g)) (fun u => (wMd Γ a u.1 u.2.1 u.2.2)) 0 0 := by
  refine mW (cc := cX9_digit) (maxL := 3) (ret := (some .int)) (own := RX9) (by decide) rfl rfl (Nat.le_of_ble_eq_true rfl) ?_
  intro p e s m args below meth c S hrt hlk hin hsz hK hP hD hA hS ls hl
  subst hsz
  generalize hAe : va_A (wMd Γ a v hs g) s.heap.size = A at hD hA hS ⊢
  obtain ⟨hx, hb, hml, hown, hts⟩ := id S
  have hn6 := hBR.1
  have hsg : sgnN bb nb ta < 127 := by unfold sgnN; split; exact (hBR.2 _ (by assumption)).2.2; decide
  have hl : lv_has ls 3 [(0, .ref (a 0)), (1, .int (nI zz))] := hl
  have hH : s.heap = s.heap := rfl
  refine lv_aload_n hx hb dX9_digit_0 rfl (lv_at hl 0 rfl) ?_
  refine lv_aload_n hx hb dX9_digit_1 rfl (lv_at hl 0 rfl) ?_
  refine va_get (D := Γ.1) (ci := 9) (v := .int (v 4)) (C := RX9) (T := TX9) (N := 11) hx hb hts (by decide +kernel) hown hK hP 0 rfl rfl 7 (by decide) (hts (.fieldLink RX9 123 "RowVeilsModel" "isWell" "Z") (by decide +kernel)) (fun _ h9 => h9) rfl dX9_digit_2 ?_
  refine asi (z := bI w) (h4) ?_
  refine lv_if_eq (tgt := 25) hx hb dX9_digit_5 (by decide) (fun c_5 => ?_) (fun c_5 => ?_)
  · have n_5 := bI_z.mp c_5
    refine lv_iconst (v := nI 0) hx hb dX9_digit_25 (by decide) ?_
    refine va_put (D := Γ.1) (ci := 9) (v := .int (nI 0)) (ty := .boolean) (C := RX9) (T := TX9) (N := 11) hx hb hts (by decide +kernel) tyX9 tyX9_ok nmX9 hown hK hP hD hS 0 rfl rfl 7 (by decide) (hts (.fieldLink RX9 123 "RowVeilsModel" "isWell" "Z") (by decide +kernel)) (fun _ h9 => h9) rfl (by decide +kernel) rfl rfl (Nat.le_of_ble_eq_true rfl) dX9_digit_26 (fun H locs hP hD hS => ?_)
    have hP : gP Γ [(a 0, .inr (9, [.int (v 0), .ref (a 1), .ref (a 2), .int (v 1), .ref (a 3), .int (v 2), .int (v 3), .int (nI 0), .ref (a 4), .int (v 5), .long hs])), (a 1, .inl (Γ.2.1, 130, .inl (g 0))), (a 2, .inl (Γ.2.1, 780, .inl (g 1))), (a 3, .inl (Γ.2.1, 60, .inl (g 2))), (a 4, .inl (Γ.2.1, 88, .inl (g 3)))] H := hP
    have hD : va_D A [(a 0, .inr (9, [.int (v 0), .ref (a 1), .ref (a 2), .int (v 1), .ref (a 3), .int (v 2), .int (v 3), .int (nI 0), .ref (a 4), .int (v 5), .long hs])), (a 1, .inl (Γ.2.1, 130, .inl (g 0))), (a 2, .inl (Γ.2.1, 780, .inl (g 1))), (a 3, .inl (Γ.2.1, 60, .inl (g 2))), (a 4, .inl (Γ.2.1, 88, .inl (g 3)))] := hD
    refine lv_aload_n hx hb dX9_digit_29 rfl (lv_at hl 0 rfl) ?_
    refine cRi (As := []) (rest := []) (m_X9_sign l Γ a (va_up v 4 (nI 0)) hs g nb bb h2 hBR ta hta h3) S k_X9_sign gX9_digit_X9_sign rfl ⟨Nat.le_of_ble_eq_true rfl, Nat.le_of_ble_eq_true rfl⟩ hK hP [0, 1, 2, 3, 4] rfl 0 (ci := 9) rfl rfl rfl rfl hl.1 (Nat.le_of_ble_eq_true rfl) rfl dX9_digit_30 ⟨Nat.le_of_ble_eq_true rfl, Nat.le_of_ble_eq_true rfl⟩ (fun r hr => ?_)
    subst hr
    refine lv_bipush (v := nI 48) hx hb dX9_digit_33 (by decide) ?_
    refine lv_isub hx hb dX9_digit_35 ?_
    refine lv_istore_n (lv' := [(2, .int ((nI (sgnN bb nb ta)) - (nI 48))), (0, .ref (a 0)), (1, .int (nI zz))]) hx hb dX9_digit_36 rfl hl (by decide) rfl (fun ls hl => ?_)
    refine lv_aload_n hx hb dX9_digit_37 rfl (lv_at hl 1 rfl) ?_
    refine lv_dup hx hb dX9_digit_38 rfl ?_
    refine va_get (D := Γ.1) (ci := 9) (v := .int (v 3)) (C := RX9) (T := TX9) (N := 11) hx hb hts (by decide +kernel) hown hK hP 0 rfl rfl 6 (by decide) (hts (.fieldLink RX9 120 "RowVeilsModel" "at" "I") (by decide +kernel)) (fun _ h9 => h9) rfl dX9_digit_39 ?_
    refine asi (z := nI ta) (h3) ?_
    refine lv_aload_n hx hb dX9_digit_42 rfl (lv_at hl 1 rfl) ?_
    refine va_get (D := Γ.1) (ci := 9) (v := .int (nI 0)) (C := RX9) (T := TX9) (N := 11) hx hb hts (by decide +kernel) hown hK hP 0 rfl rfl 7 (by decide) (hts (.fieldLink RX9 123 "RowVeilsModel" "isWell" "Z") (by decide +kernel)) (fun _ h9 => h9) rfl dX9_digit_43 ?_
    refine lv_if_eq (tgt := 53) hx hb dX9_digit_46 (by decide) (fun c_46 => ?_) (fun c_46 => ?_)
    · refine lv_iconst (v := nI 0) hx hb dX9_digit_53 (by decide) ?_
      refine lv_iadd hx hb dX9_digit_54 ?_
      refine asi (z := nI (ta + 0)) (nI_add _ _) ?_
      refine va_put (D := Γ.1) (ci := 9) (v := .int (nI (ta + 0))) (ty := .int) (C := RX9) (T := TX9) (N := 11) hx hb hts (by decide +kernel) tyX9 tyX9_ok nmX9 hown hK hP hD hS 0 rfl rfl 6 (by decide) (hts (.fieldLink RX9 120 "RowVeilsModel" "at" "I") (by decide +kernel)) (fun _ h9 => h9) rfl (by decide +kernel) rfl rfl (Nat.le_of_ble_eq_true rfl) dX9_digit_55 (fun H locs hP hD hS => ?_)
      have hP : gP Γ [(a 0, .inr (9, [.int (v 0), .ref (a 1), .ref (a 2), .int (v 1), .ref (a 3), .int (v 2), .int (nI (ta + 0)), .int (nI 0), .ref (a 4), .int (v 5), .long hs])), (a 1, .inl (Γ.2.1, 130, .inl (g 0))), (a 2, .inl (Γ.2.1, 780, .inl (g 1))), (a 3, .inl (Γ.2.1, 60, .inl (g 2))), (a 4, .inl (Γ.2.1, 88, .inl (g 3)))] H := hP
      have hD : va_D A [(a 0, .inr (9, [.int (v 0), .ref (a 1), .ref (a 2), .int (v 1), .ref (a 3), .int (v 2), .int (nI (ta + 0)), .int (nI 0), .ref (a 4), .int (v 5), .long hs])), (a 1, .inl (Γ.2.1, 130, .inl (g 0))), (a 2, .inl (Γ.2.1, 780, .inl (g 1))), (a 3, .inl (Γ.2.1, 60, .inl (g 2))), (a 4, .inl (Γ.2.1, 88, .inl (g 3)))] := hD
      refine lv_iload_n hx hb dX9_digit_58 rfl (lv_at hl 0 rfl) ?_
      exact W.iret (v := (nI (sgnN bb nb ta)) - (nI 48)) hx hb hrt (fun t9 ht9 hW9 => ⟨⟨_, (va_up (va_up v 3 (nI (ta + 0))) 4 (nI 0), hs, g), rfl, ⟨rfl, TS.f (by unfold dgQ; first | (rw [n_5]; rfl) | (rw [n_5]; exact n_18)), rfl⟩, wd_end hK hP hD [0, 1, 2, 3, 4] (by decide) rfl t9 ht9 hW9⟩, hS.F ht9⟩) hS.2.2 dX9_digit_59 hlk
    · exact absurd rfl c_46
  · have n_5 := bI_nz.mp c_5
    refine lv_aload_n hx hb dX9_digit_8 rfl (lv_at hl 0 rfl) ?_
    refine cRi (As := []) (rest := [.ref (a 0)]) (m_X9_sign l Γ a v hs g nb bb h2 hBR ta hta h3) S k_X9_sign gX9_digit_X9_sign rfl ⟨Nat.le_of_ble_eq_true rfl, Nat.le_of_ble_eq_true rfl⟩ hK hP [0, 1, 2, 3, 4] rfl 0 (ci := 9) rfl rfl rfl rfl hl.1 (Nat.le_of_ble_eq_true rfl) rfl dX9_digit_9 ⟨Nat.le_of_ble_eq_true rfl, Nat.le_of_ble_eq_true rfl⟩ (fun r hr => ?_)
    subst hr
    refine lv_bipush (v := nI 48) hx hb dX9_digit_12 (by decide) ?_
    refine lv_iload_n hx hb dX9_digit_14 rfl (lv_at hl 1 rfl) ?_
    refine cSi (As := [.int (nI (sgnN bb nb ta)), .int (nI 48), .int (nI zz)]) (rest := [.ref (a 0)]) (m_X9_in l (nI (sgnN bb nb ta)) (nI 48) (nI zz)) S k_X9_in gX9_digit_X9_in ⟨Nat.le_of_ble_eq_true rfl, Nat.le_of_ble_eq_true rfl⟩ rfl hl.1 (Nat.le_of_ble_eq_true rfl) rfl dX9_digit_15 ⟨Nat.le_of_ble_eq_true rfl, Nat.le_of_ble_eq_true rfl⟩ (fun r hr => ?_)
    subst hr
    refine lv_if_eq (tgt := 25) hx hb dX9_digit_18 (by decide) (fun c_18 => ?_) (fun c_18 => ?_)
    · have n_18 := bI_z.mp c_18
      rw [inI_n (by omega) (by decide) (by omega)] at n_18
      refine lv_iconst (v := nI 0) hx hb dX9_digit_25 (by decide) ?_
      refine va_put (D := Γ.1) (ci := 9) (v := .int (nI 0)) (ty := .boolean) (C := RX9) (T := TX9) (N := 11) hx hb hts (by decide +kernel) tyX9 tyX9_ok nmX9 hown hK hP hD hS 0 rfl rfl 7 (by decide) (hts (.fieldLink RX9 123 "RowVeilsModel" "isWell" "Z") (by decide +kernel)) (fun _ h9 => h9) rfl (by decide +kernel) rfl rfl (Nat.le_of_ble_eq_true rfl) dX9_digit_26 (fun H locs hP hD hS => ?_)
      have hP : gP Γ [(a 0, .inr (9, [.int (v 0), .ref (a 1), .ref (a 2), .int (v 1), .ref (a 3), .int (v 2), .int (v 3), .int (nI 0), .ref (a 4), .int (v 5), .long hs])), (a 1, .inl (Γ.2.1, 130, .inl (g 0))), (a 2, .inl (Γ.2.1, 780, .inl (g 1))), (a 3, .inl (Γ.2.1, 60, .inl (g 2))), (a 4, .inl (Γ.2.1, 88, .inl (g 3)))] H := hP
      have hD : va_D A [(a 0, .inr (9, [.int (v 0), .ref (a 1), .ref (a 2), .int (v 1), .ref (a 3), .int (v 2), .int (v 3), .int (nI 0), .ref (a 4), .int (v 5), .long hs])), (a 1, .inl (Γ.2.1, 130, .inl (g 0))), (a 2, .inl (Γ.2.1, 780, .inl (g 1))), (a 3, .inl (Γ.2.1, 60, .inl (g 2))), (a 4, .inl (Γ.2.1, 88, .inl (g 3)))] := hD
      refine lv_aload_n hx hb dX9_digit_29 rfl (lv_at hl 0 rfl) ?_
      refine cRi (As := []) (rest := []) (m_X9_sign l Γ a (va_up v 4 (nI 0)) hs g nb bb h2 hBR ta hta h3) S k_X9_sign gX9_digit_X9_sign rfl ⟨Nat.le_of_ble_eq_true rfl, Nat.le_of_ble_eq_true rfl⟩ hK hP [0, 1, 2, 3, 4] rfl 0 (ci := 9) rfl rfl rfl rfl hl.1 (Nat.le_of_ble_eq_true rfl) rfl dX9_digit_30 ⟨Nat.le_of_ble_eq_true rfl, Nat.le_of_ble_eq_true rfl⟩ (fun r hr => ?_)
      subst hr
      refine lv_bipush (v := nI 48) hx hb dX9_digit_33 (by decide) ?_
      refine lv_isub hx hb dX9_digit_35 ?_
      refine lv_istore_n (lv' := [(2, .int ((nI (sgnN bb nb ta)) - (nI 48))), (0, .ref (a 0)), (1, .int (nI zz))]) hx hb dX9_digit_36 rfl hl (by decide) rfl (fun ls hl => ?_)
      refine lv_aload_n hx hb dX9_digit_37 rfl (lv_at hl 1 rfl) ?_
      refine lv_dup hx hb dX9_digit_38 rfl ?_
      refine va_get (D := Γ.1) (ci := 9) (v := .int (v 3)) (C := RX9) (T := TX9) (N := 11) hx hb hts (by decide +kernel) hown hK hP 0 rfl rfl 6 (by decide) (hts (.fieldLink RX9 120 "RowVeilsModel" "at" "I") (by decide +kernel)) (fun _ h9 => h9) rfl dX9_digit_39 ?_
      refine asi (z := nI ta) (h3) ?_
      refine lv_aload_n hx hb dX9_digit_42 rfl (lv_at hl 1 rfl) ?_
      refine va_get (D := Γ.1) (ci := 9) (v := .int (nI 0)) (C := RX9) (T := TX9) (N := 11) hx hb hts (by decide +kernel) hown hK hP 0 rfl rfl 7 (by decide) (hts (.fieldLink RX9 123 "RowVeilsModel" "isWell" "Z") (by decide +kernel)) (fun _ h9 => h9) rfl dX9_digit_43 ?_
      refine lv_if_eq (tgt := 53) hx hb dX9_digit_46 (by decide) (fun c_46 => ?_) (fun c_46 => ?_)
      · refine lv_iconst (v := nI 0) hx hb dX9_digit_53 (by decide) ?_
        refine lv_iadd hx hb dX9_digit_54 ?_
        refine asi (z := nI (ta + 0)) (nI_add _ _) ?_
        refine va_put (D := Γ.1) (ci := 9) (v := .int (nI (ta + 0))) (ty := .int) (C := RX9) (T := TX9) (N := 11) hx hb hts (by decide +kernel) tyX9 tyX9_ok nmX9 hown hK hP hD hS 0 rfl rfl 6 (by decide) (hts (.fieldLink RX9 120 "RowVeilsModel" "at" "I") (by decide +kernel)) (fun _ h9 => h9) rfl (by decide +kernel) rfl rfl (Nat.le_of_ble_eq_true rfl) dX9_digit_55 (fun H locs hP hD hS => ?_)
        have hP : gP Γ [(a 0, .inr (9, [.int (v 0), .ref (a 1), .ref (a 2), .int (v 1), .ref (a 3), .int (v 2), .int (nI (ta + 0)), .int (nI 0), .ref (a 4), .int (v 5), .long hs])), (a 1, .inl (Γ.2.1, 130, .inl (g 0))), (a 2, .inl (Γ.2.1, 780, .inl (g 1))), (a 3, .inl (Γ.2.1, 60, .inl (g 2))), (a 4, .inl (Γ.2.1, 88, .inl (g 3)))] H := hP
        have hD : va_D A [(a 0, .inr (9, [.int (v 0), .ref (a 1), .ref (a 2), .int (v 1), .ref (a 3), .int (v 2), .int (nI (ta + 0)), .int (nI 0), .ref (a 4), .int (v 5), .long hs])), (a 1, .inl (Γ.2.1, 130, .inl (g 0))), (a 2, .inl (Γ.2.1, 780, .inl (g 1))), (a 3, .inl (Γ.2.1, 60, .inl (g 2))), (a 4, .inl (Γ.2.1, 88, .inl (g 3)))] := hD
        refine lv_iload_n hx hb dX9_digit_58 rfl (lv_at hl 0 rfl) ?_
        exact W.iret (v := (nI (sgnN bb nb ta)) - (nI 48)) hx hb hrt (fun t9 ht9 hW9 => ⟨⟨_, (va_up (va_up v 3 (nI (ta + 0))) 4 (nI 0), hs, g), rfl, ⟨rfl, TS.f (by unfold dgQ; first | (rw [n_5]; rfl) | (rw [n_5]; exact n_18)), rfl⟩, wd_end hK hP hD [0, 1, 2, 3, 4] (by decide) rfl t9 ht9 hW9⟩, hS.F ht9⟩) hS.2.2 dX9_digit_59 hlk
      · exact absurd rfl c_46
    · have n_18 := bI_nz.mp c_18
      rw [inI_n (by omega) (by decide) (by omega)] at n_18
      refine lv_iconst (v := nI 1) hx hb dX9_digit_21 (by decide) ?_
      refine lv_goto (tgt := 26) hx hb dX9_digit_22 (by decide) ?_
      refine va_put (D := Γ.1) (ci := 9) (v := .int (nI 1)) (ty := .boolean) (C := RX9) (T := TX9) (N := 11) hx hb hts (by decide +kernel) tyX9 tyX9_ok nmX9 hown hK hP hD hS 0 rfl rfl 7 (by decide) (hts (.fieldLink RX9 123 "RowVeilsModel" "isWell" "Z") (by decide +kernel)) (fun _ h9 => h9) rfl (by decide +kernel) rfl rfl (Nat.le_of_ble_eq_true rfl) dX9_digit_26 (fun H locs hP hD hS => ?_)
      have hP : gP Γ [(a 0, .inr (9, [.int (v 0), .ref (a 1), .ref (a 2), .int (v 1), .ref (a 3), .int (v 2), .int (v 3), .int (nI 1), .ref (a 4), .int (v 5), .long hs])), (a 1, .inl (Γ.2.1, 130, .inl (g 0))), (a 2, .inl (Γ.2.1, 780, .inl (g 1))), (a 3, .inl (Γ.2.1, 60, .inl (g 2))), (a 4, .inl (Γ.2.1, 88, .inl (g 3)))] H := hP
      have hD : va_D A [(a 0, .inr (9, [.int (v 0), .ref (a 1), .ref (a 2), .int (v 1), .ref (a 3), .int (v 2), .int (v 3), .int (nI 1), .ref (a 4), .int (v 5), .long hs])), (a 1, .inl (Γ.2.1, 130, .inl (g 0))), (a 2, .inl (Γ.2.1, 780, .inl (g 1))), (a 3, .inl (Γ.2.1, 60, .inl (g 2))), (a 4, .inl (Γ.2.1, 88, .inl (g 3)))] := hD
      refine lv_aload_n hx hb dX9_digit_29 rfl (lv_at hl 0 rfl) ?_
      refine cRi (As := []) (rest := []) (m_X9_sign l Γ a (va_up v 4 (nI 1)) hs g nb bb h2 hBR ta hta h3) S k_X9_sign gX9_digit_X9_sign rfl ⟨Nat.le_of_ble_eq_true rfl, Nat.le_of_ble_eq_true rfl⟩ hK hP [0, 1, 2, 3, 4] rfl 0 (ci := 9) rfl rfl rfl rfl hl.1 (Nat.le_of_ble_eq_true rfl) rfl dX9_digit_30 ⟨Nat.le_of_ble_eq_true rfl, Nat.le_of_ble_eq_true rfl⟩ (fun r hr => ?_)
      subst hr
      refine lv_bipush (v := nI 48) hx hb dX9_digit_33 (by decide) ?_
      refine lv_isub hx hb dX9_digit_35 ?_
      refine lv_istore_n (lv' := [(2, .int ((nI (sgnN bb nb ta)) - (nI 48))), (0, .ref (a 0)), (1, .int (nI zz))]) hx hb dX9_digit_36 rfl hl (by decide) rfl (fun ls hl => ?_)
      refine lv_aload_n hx hb dX9_digit_37 rfl (lv_at hl 1 rfl) ?_
      refine lv_dup hx hb dX9_digit_38 rfl ?_
      refine va_get (D := Γ.1) (ci := 9) (v := .int (v 3)) (C := RX9) (T := TX9) (N := 11) hx hb hts (by decide +kernel) hown hK hP 0 rfl rfl 6 (by decide) (hts (.fieldLink RX9 120 "RowVeilsModel" "at" "I") (by decide +kernel)) (fun _ h9 => h9) rfl dX9_digit_39 ?_
      refine asi (z := nI ta) (h3) ?_
      refine lv_aload_n hx hb dX9_digit_42 rfl (lv_at hl 1 rfl) ?_
      refine va_get (D := Γ.1) (ci := 9) (v := .int (nI 1)) (C := RX9) (T := TX9) (N := 11) hx hb hts (by decide +kernel) hown hK hP 0 rfl rfl 7 (by decide) (hts (.fieldLink RX9 123 "RowVeilsModel" "isWell" "Z") (by decide +kernel)) (fun _ h9 => h9) rfl dX9_digit_43 ?_
      refine lv_if_eq (tgt := 53) hx hb dX9_digit_46 (by decide) (fun c_46 => ?_) (fun c_46 => ?_)
      · exact absurd c_46 (by decide)
      · refine lv_iconst (v := nI 1) hx hb dX9_digit_49 (by decide) ?_
        refine lv_goto (tgt := 54) hx hb dX9_digit_50 (by decide) ?_
        refine lv_iadd hx hb dX9_digit_54 ?_
        refine asi (z := nI (ta + 1)) (nI_add _ _) ?_
        refine va_put (D := Γ.1) (ci := 9) (v := .int (nI (ta + 1))) (ty := .int) (C := RX9) (T := TX9) (N := 11) hx hb hts (by decide +kernel) tyX9 tyX9_ok nmX9 hown hK hP hD hS 0 rfl rfl 6 (by decide) (hts (.fieldLink RX9 120 "RowVeilsModel" "at" "I") (by decide +kernel)) (fun _ h9 => h9) rfl (by decide +kernel) rfl rfl (Nat.le_of_ble_eq_true rfl) dX9_digit_55 (fun H locs hP hD hS => ?_)
        have hP : gP Γ [(a 0, .inr (9, [.int (v 0), .ref (a 1), .ref (a 2), .int (v 1), .ref (a 3), .int (v 2), .int (nI (ta + 1)), .int (nI 1), .ref (a 4), .int (v 5), .long hs])), (a 1, .inl (Γ.2.1, 130, .inl (g 0))), (a 2, .inl (Γ.2.1, 780, .inl (g 1))), (a 3, .inl (Γ.2.1, 60, .inl (g 2))), (a 4, .inl (Γ.2.1, 88, .inl (g 3)))] H := hP
        have hD : va_D A [(a 0, .inr (9, [.int (v 0), .ref (a 1), .ref (a 2), .int (v 1), .ref (a 3), .int (v 2), .int (nI (ta + 1)), .int (nI 1), .ref (a 4), .int (v 5), .long hs])), (a 1, .inl (Γ.2.1, 130, .inl (g 0))), (a 2, .inl (Γ.2.1, 780, .inl (g 1))), (a 3, .inl (Γ.2.1, 60, .inl (g 2))), (a 4, .inl (Γ.2.1, 88, .inl (g 3)))] := hD
        refine lv_iload_n hx hb dX9_digit_58 rfl (lv_at hl 0 rfl) ?_
        exact W.iret (v := (nI (sgnN bb nb ta)) - (nI 48)) hx hb hrt (fun t9 ht9 hW9 => ⟨⟨_, (va_up (va_up v 3 (nI (ta + 1))) 4 (nI 1), hs, g), rfl, ⟨rfl, TS.t (by unfold dgQ; rw [n_5]; exact n_18), rfl⟩, wd_end hK hP hD [0, 1, 2, 3, 4] (by decide) rfl t9 ht9 hW9⟩, hS.F ht9⟩) hS.2.2 dX9_digit_59 hlk

abbrev rm_X9_placeRead : Room := { frames := 1, cells := 0, slots := 0, locals := 20 }
theorem k_X9_placeRead : Cal yX9_placeRead wsX9_placeRead rm_X9_placeRead cX9_placeRead 2 (some .int) 0 0 0 := ⟨⟨_, rfl⟩, rfl, rfl, by decide +kernel⟩
set_option maxHeartbeats 4000000 in
set_option maxRecDepth 100000 in
theorem m_X9_placeRead (l : Launch) (Γ : Gm) (sz : Nat) (a : Nat → Nat) (v : Nat → Int32) (hs : Int64) (g : Nat → Nat → Int32) (nb : Nat) (bb : Nat → Nat) (h2 : v 2 = nI nb) (hBR : BR nb bb (g 2)) (ta : Nat) (hta : ta ≤ nb) (h3 : v 3 = nI ta) (w : Bool) (h4 : v 4 = bI w) : MWi (S := WtM) l yX9_placeRead wsX9_placeRead rm_X9_placeRead Γ sz (wMd Γ a v hs g) [.ref (a 0)] (fun r u => r = nI (plM (sgnN bb nb ta)) ∧ TS v u.1 ta (w && decide (plN (sgnN bb nb ta) < 4)) ∧ u.2 = (hs, g)) (fun u => (wMd Γ a u.1 u.2.1 u.2.2)) 0 0 := by
  refine mW (cc := cX9_placeRead) (maxL := 2) (ret := (some .int)) (own := RX9) (by decide) rfl rfl (Nat.le_of_ble_eq_true rfl) ?_
  intro p e s m args below meth c S hrt hlk hin hsz hK hP hD hA hS ls hl
  subst hsz
  generalize hAe : va_A (wMd Γ a v hs g) s.heap.size = A at hD hA hS ⊢
  obtain ⟨hx, hb, hml, hown, hts⟩ := id S
  have hn6 := hBR.1
  have hsg : sgnN bb nb ta < 127 := by unfold sgnN; split; exact (hBR.2 _ (by assumption)).2.2; decide
  have hl : lv_has ls 2 [(0, .ref (a 0))] := hl
  have hH : s.heap = s.heap := rfl
  refine lv_aload_n hx hb dX9_placeRead_0 rfl (lv_at hl 0 rfl) ?_
  refine cRi (As := []) (rest := []) (m_X9_sign l Γ a v hs g nb bb h2 hBR ta hta h3) S k_X9_sign gX9_placeRead_X9_sign rfl ⟨Nat.le_of_ble_eq_true rfl, Nat.le_of_ble_eq_true rfl⟩ hK hP [0, 1, 2, 3, 4] rfl 0 (ci := 9) rfl rfl rfl rfl hl.1 (Nat.le_of_ble_eq_true rfl) rfl dX9_placeRead_1 ⟨Nat.le_of_ble_eq_true rfl, Nat.le_of_ble_eq_true rfl⟩ (fun r hr => ?_)
  subst hr
  refine lv_bipush (v := nI 110) hx hb dX9_placeRead_4 (by decide) ?_
  refine lv_icmp_ne (tgt := 13) hx hb dX9_placeRead_6 (by decide) (fun c_6 => ?_) (fun c_6 => ?_)
  · have n_6 := (not_congr (nI_eq (a := (sgnN bb nb ta)) (b := 110) (by omega) (by omega))).mp c_6
    refine lv_aload_n hx hb dX9_placeRead_13 rfl (lv_at hl 0 rfl) ?_
    refine cRi (As := []) (rest := []) (m_X9_sign l Γ a v hs g nb bb h2 hBR ta hta h3) S k_X9_sign gX9_placeRead_X9_sign rfl ⟨Nat.le_of_ble_eq_true rfl, Nat.le_of_ble_eq_true rfl⟩ hK hP [0, 1, 2, 3, 4] rfl 0 (ci := 9) rfl rfl rfl rfl hl.1 (Nat.le_of_ble_eq_true rfl) rfl dX9_placeRead_14 ⟨Nat.le_of_ble_eq_true rfl, Nat.le_of_ble_eq_true rfl⟩ (fun r hr => ?_)
    subst hr
    refine lv_bipush (v := nI 101) hx hb dX9_placeRead_17 (by decide) ?_
    refine lv_icmp_ne (tgt := 26) hx hb dX9_placeRead_19 (by decide) (fun c_19 => ?_) (fun c_19 => ?_)
    · have n_19 := (not_congr (nI_eq (a := (sgnN bb nb ta)) (b := 101) (by omega) (by omega))).mp c_19
      refine lv_aload_n hx hb dX9_placeRead_26 rfl (lv_at hl 0 rfl) ?_
      refine cRi (As := []) (rest := []) (m_X9_sign l Γ a v hs g nb bb h2 hBR ta hta h3) S k_X9_sign gX9_placeRead_X9_sign rfl ⟨Nat.le_of_ble_eq_true rfl, Nat.le_of_ble_eq_true rfl⟩ hK hP [0, 1, 2, 3, 4] rfl 0 (ci := 9) rfl rfl rfl rfl hl.1 (Nat.le_of_ble_eq_true rfl) rfl dX9_placeRead_27 ⟨Nat.le_of_ble_eq_true rfl, Nat.le_of_ble_eq_true rfl⟩ (fun r hr => ?_)
      subst hr
      refine lv_bipush (v := nI 115) hx hb dX9_placeRead_30 (by decide) ?_
      refine lv_icmp_ne (tgt := 39) hx hb dX9_placeRead_32 (by decide) (fun c_32 => ?_) (fun c_32 => ?_)
      · have n_32 := (not_congr (nI_eq (a := (sgnN bb nb ta)) (b := 115) (by omega) (by omega))).mp c_32
        refine lv_iconst (v := nI 3) hx hb dX9_placeRead_39 (by decide) ?_
        refine lv_istore_n (lv' := [(1, .int (nI 3)), (0, .ref (a 0))]) hx hb dX9_placeRead_40 rfl hl (by decide) rfl (fun ls hl => ?_)
        refine lv_aload_n hx hb dX9_placeRead_41 rfl (lv_at hl 1 rfl) ?_
        refine lv_aload_n hx hb dX9_placeRead_42 rfl (lv_at hl 1 rfl) ?_
        refine va_get (D := Γ.1) (ci := 9) (v := .int (v 4)) (C := RX9) (T := TX9) (N := 11) hx hb hts (by decide +kernel) hown hK hP 0 rfl rfl 7 (by decide) (hts (.fieldLink RX9 123 "RowVeilsModel" "isWell" "Z") (by decide +kernel)) (fun _ h9 => h9) rfl dX9_placeRead_43 ?_
        refine asi (z := bI w) (h4) ?_
        refine lv_if_eq (tgt := 67) hx hb dX9_placeRead_46 (by decide) (fun c_46 => ?_) (fun c_46 => ?_)
        · have n_46 := bI_z.mp c_46
          refine lv_iconst (v := nI 0) hx hb dX9_placeRead_67 (by decide) ?_
          refine va_put (D := Γ.1) (ci := 9) (v := .int (nI 0)) (ty := .boolean) (C := RX9) (T := TX9) (N := 11) hx hb hts (by decide +kernel) tyX9 tyX9_ok nmX9 hown hK hP hD hS 0 rfl rfl 7 (by decide) (hts (.fieldLink RX9 123 "RowVeilsModel" "isWell" "Z") (by decide +kernel)) (fun _ h9 => h9) rfl (by decide +kernel) rfl rfl (Nat.le_of_ble_eq_true rfl) dX9_placeRead_68 (fun H locs hP hD hS => ?_)
          have hP : gP Γ [(a 0, .inr (9, [.int (v 0), .ref (a 1), .ref (a 2), .int (v 1), .ref (a 3), .int (v 2), .int (v 3), .int (nI 0), .ref (a 4), .int (v 5), .long hs])), (a 1, .inl (Γ.2.1, 130, .inl (g 0))), (a 2, .inl (Γ.2.1, 780, .inl (g 1))), (a 3, .inl (Γ.2.1, 60, .inl (g 2))), (a 4, .inl (Γ.2.1, 88, .inl (g 3)))] H := hP
          have hD : va_D A [(a 0, .inr (9, [.int (v 0), .ref (a 1), .ref (a 2), .int (v 1), .ref (a 3), .int (v 2), .int (v 3), .int (nI 0), .ref (a 4), .int (v 5), .long hs])), (a 1, .inl (Γ.2.1, 130, .inl (g 0))), (a 2, .inl (Γ.2.1, 780, .inl (g 1))), (a 3, .inl (Γ.2.1, 60, .inl (g 2))), (a 4, .inl (Γ.2.1, 88, .inl (g 3)))] := hD
          refine lv_aload_n hx hb dX9_placeRead_71 rfl (lv_at hl 1 rfl) ?_
          refine lv_dup hx hb dX9_placeRead_72 rfl ?_
          refine va_get (D := Γ.1) (ci := 9) (v := .int (v 3)) (C := RX9) (T := TX9) (N := 11) hx hb hts (by decide +kernel) hown hK hP 0 rfl rfl 6 (by decide) (hts (.fieldLink RX9 120 "RowVeilsModel" "at" "I") (by decide +kernel)) (fun _ h9 => h9) rfl dX9_placeRead_73 ?_
          refine asi (z := nI ta) (h3) ?_
          refine lv_aload_n hx hb dX9_placeRead_76 rfl (lv_at hl 1 rfl) ?_
          refine va_get (D := Γ.1) (ci := 9) (v := .int (nI 0)) (C := RX9) (T := TX9) (N := 11) hx hb hts (by decide +kernel) hown hK hP 0 rfl rfl 7 (by decide) (hts (.fieldLink RX9 123 "RowVeilsModel" "isWell" "Z") (by decide +kernel)) (fun _ h9 => h9) rfl dX9_placeRead_77 ?_
          refine lv_if_eq (tgt := 87) hx hb dX9_placeRead_80 (by decide) (fun c_80 => ?_) (fun c_80 => ?_)
          · refine lv_iconst (v := nI 0) hx hb dX9_placeRead_87 (by decide) ?_
            refine lv_iadd hx hb dX9_placeRead_88 ?_
            refine asi (z := nI (ta + 0)) (nI_add _ _) ?_
            refine va_put (D := Γ.1) (ci := 9) (v := .int (nI (ta + 0))) (ty := .int) (C := RX9) (T := TX9) (N := 11) hx hb hts (by decide +kernel) tyX9 tyX9_ok nmX9 hown hK hP hD hS 0 rfl rfl 6 (by decide) (hts (.fieldLink RX9 120 "RowVeilsModel" "at" "I") (by decide +kernel)) (fun _ h9 => h9) rfl (by decide +kernel) rfl rfl (Nat.le_of_ble_eq_true rfl) dX9_placeRead_89 (fun H locs hP hD hS => ?_)
            have hP : gP Γ [(a 0, .inr (9, [.int (v 0), .ref (a 1), .ref (a 2), .int (v 1), .ref (a 3), .int (v 2), .int (nI (ta + 0)), .int (nI 0), .ref (a 4), .int (v 5), .long hs])), (a 1, .inl (Γ.2.1, 130, .inl (g 0))), (a 2, .inl (Γ.2.1, 780, .inl (g 1))), (a 3, .inl (Γ.2.1, 60, .inl (g 2))), (a 4, .inl (Γ.2.1, 88, .inl (g 3)))] H := hP
            have hD : va_D A [(a 0, .inr (9, [.int (v 0), .ref (a 1), .ref (a 2), .int (v 1), .ref (a 3), .int (v 2), .int (nI (ta + 0)), .int (nI 0), .ref (a 4), .int (v 5), .long hs])), (a 1, .inl (Γ.2.1, 130, .inl (g 0))), (a 2, .inl (Γ.2.1, 780, .inl (g 1))), (a 3, .inl (Γ.2.1, 60, .inl (g 2))), (a 4, .inl (Γ.2.1, 88, .inl (g 3)))] := hD
            refine lv_iload_n hx hb dX9_placeRead_92 rfl (lv_at hl 0 rfl) ?_
            exact W.iret (v := nI 3) hx hb hrt (fun t9 ht9 hW9 => ⟨⟨_, (va_up (va_up v 3 (nI (ta + 0))) 4 (nI 0), hs, g), rfl, ⟨(by unfold plM; rw [if_neg n_6, if_neg n_19, if_neg n_32]), TS.f (by first | (rw [n_46]; rfl) | (unfold plN; rw [if_neg n_6, if_neg n_19, if_neg n_32, if_neg n_60, n_46]; rfl)), rfl⟩, wd_end hK hP hD [0, 1, 2, 3, 4] (by decide) rfl t9 ht9 hW9⟩, hS.F ht9⟩) hS.2.2 dX9_placeRead_93 hlk
          · exact absurd rfl c_80
        · have n_46 := bI_nz.mp c_46
          refine lv_iload_n hx hb dX9_placeRead_49 rfl (lv_at hl 0 rfl) ?_
          refine lv_iconst (v := nI 3) hx hb dX9_placeRead_50 (by decide) ?_
          refine lv_icmp_lt (tgt := 63) hx hb dX9_placeRead_51 (by decide) (fun c_51 => ?_) (fun c_51 => ?_)
          · exact absurd c_51 (by decide)
          · refine lv_aload_n hx hb dX9_placeRead_54 rfl (lv_at hl 1 rfl) ?_
            refine cRi (As := []) (rest := [.ref (a 0)]) (m_X9_sign l Γ a v hs g nb bb h2 hBR ta hta h3) S k_X9_sign gX9_placeRead_X9_sign rfl ⟨Nat.le_of_ble_eq_true rfl, Nat.le_of_ble_eq_true rfl⟩ hK hP [0, 1, 2, 3, 4] rfl 0 (ci := 9) rfl rfl rfl rfl hl.1 (Nat.le_of_ble_eq_true rfl) rfl dX9_placeRead_55 ⟨Nat.le_of_ble_eq_true rfl, Nat.le_of_ble_eq_true rfl⟩ (fun r hr => ?_)
            subst hr
            refine lv_bipush (v := nI 119) hx hb dX9_placeRead_58 (by decide) ?_
            refine lv_icmp_ne (tgt := 67) hx hb dX9_placeRead_60 (by decide) (fun c_60 => ?_) (fun c_60 => ?_)
            · have n_60 := (not_congr (nI_eq (a := (sgnN bb nb ta)) (b := 119) (by omega) (by omega))).mp c_60
              refine lv_iconst (v := nI 0) hx hb dX9_placeRead_67 (by decide) ?_
              refine va_put (D := Γ.1) (ci := 9) (v := .int (nI 0)) (ty := .boolean) (C := RX9) (T := TX9) (N := 11) hx hb hts (by decide +kernel) tyX9 tyX9_ok nmX9 hown hK hP hD hS 0 rfl rfl 7 (by decide) (hts (.fieldLink RX9 123 "RowVeilsModel" "isWell" "Z") (by decide +kernel)) (fun _ h9 => h9) rfl (by decide +kernel) rfl rfl (Nat.le_of_ble_eq_true rfl) dX9_placeRead_68 (fun H locs hP hD hS => ?_)
              have hP : gP Γ [(a 0, .inr (9, [.int (v 0), .ref (a 1), .ref (a 2), .int (v 1), .ref (a 3), .int (v 2), .int (v 3), .int (nI 0), .ref (a 4), .int (v 5), .long hs])), (a 1, .inl (Γ.2.1, 130, .inl (g 0))), (a 2, .inl (Γ.2.1, 780, .inl (g 1))), (a 3, .inl (Γ.2.1, 60, .inl (g 2))), (a 4, .inl (Γ.2.1, 88, .inl (g 3)))] H := hP
              have hD : va_D A [(a 0, .inr (9, [.int (v 0), .ref (a 1), .ref (a 2), .int (v 1), .ref (a 3), .int (v 2), .int (v 3), .int (nI 0), .ref (a 4), .int (v 5), .long hs])), (a 1, .inl (Γ.2.1, 130, .inl (g 0))), (a 2, .inl (Γ.2.1, 780, .inl (g 1))), (a 3, .inl (Γ.2.1, 60, .inl (g 2))), (a 4, .inl (Γ.2.1, 88, .inl (g 3)))] := hD
              refine lv_aload_n hx hb dX9_placeRead_71 rfl (lv_at hl 1 rfl) ?_
              refine lv_dup hx hb dX9_placeRead_72 rfl ?_
              refine va_get (D := Γ.1) (ci := 9) (v := .int (v 3)) (C := RX9) (T := TX9) (N := 11) hx hb hts (by decide +kernel) hown hK hP 0 rfl rfl 6 (by decide) (hts (.fieldLink RX9 120 "RowVeilsModel" "at" "I") (by decide +kernel)) (fun _ h9 => h9) rfl dX9_placeRead_73 ?_
              refine asi (z := nI ta) (h3) ?_
              refine lv_aload_n hx hb dX9_placeRead_76 rfl (lv_at hl 1 rfl) ?_
              refine va_get (D := Γ.1) (ci := 9) (v := .int (nI 0)) (C := RX9) (T := TX9) (N := 11) hx hb hts (by decide +kernel) hown hK hP 0 rfl rfl 7 (by decide) (hts (.fieldLink RX9 123 "RowVeilsModel" "isWell" "Z") (by decide +kernel)) (fun _ h9 => h9) rfl dX9_placeRead_77 ?_
              refine lv_if_eq (tgt := 87) hx hb dX9_placeRead_80 (by decide) (fun c_80 => ?_) (fun c_80 => ?_)
              · refine lv_iconst (v := nI 0) hx hb dX9_placeRead_87 (by decide) ?_
                refine lv_iadd hx hb dX9_placeRead_88 ?_
                refine asi (z := nI (ta + 0)) (nI_add _ _) ?_
                refine va_put (D := Γ.1) (ci := 9) (v := .int (nI (ta + 0))) (ty := .int) (C := RX9) (T := TX9) (N := 11) hx hb hts (by decide +kernel) tyX9 tyX9_ok nmX9 hown hK hP hD hS 0 rfl rfl 6 (by decide) (hts (.fieldLink RX9 120 "RowVeilsModel" "at" "I") (by decide +kernel)) (fun _ h9 => h9) rfl (by decide +kernel) rfl rfl (Nat.le_of_ble_eq_true rfl) dX9_placeRead_89 (fun H locs hP hD hS => ?_)
                have hP : gP Γ [(a 0, .inr (9, [.int (v 0), .ref (a 1), .ref (a 2), .int (v 1), .ref (a 3), .int (v 2), .int (nI (ta + 0)), .int (nI 0), .ref (a 4), .int (v 5), .long hs])), (a 1, .inl (Γ.2.1, 130, .inl (g 0))), (a 2, .inl (Γ.2.1, 780, .inl (g 1))), (a 3, .inl (Γ.2.1, 60, .inl (g 2))), (a 4, .inl (Γ.2.1, 88, .inl (g 3)))] H := hP
                have hD : va_D A [(a 0, .inr (9, [.int (v 0), .ref (a 1), .ref (a 2), .int (v 1), .ref (a 3), .int (v 2), .int (nI (ta + 0)), .int (nI 0), .ref (a 4), .int (v 5), .long hs])), (a 1, .inl (Γ.2.1, 130, .inl (g 0))), (a 2, .inl (Γ.2.1, 780, .inl (g 1))), (a 3, .inl (Γ.2.1, 60, .inl (g 2))), (a 4, .inl (Γ.2.1, 88, .inl (g 3)))] := hD
                refine lv_iload_n hx hb dX9_placeRead_92 rfl (lv_at hl 0 rfl) ?_
                exact W.iret (v := nI 3) hx hb hrt (fun t9 ht9 hW9 => ⟨⟨_, (va_up (va_up v 3 (nI (ta + 0))) 4 (nI 0), hs, g), rfl, ⟨(by unfold plM; rw [if_neg n_6, if_neg n_19, if_neg n_32]), TS.f (by first | (rw [n_46]; rfl) | (unfold plN; rw [if_neg n_6, if_neg n_19, if_neg n_32, if_neg n_60, n_46]; rfl)), rfl⟩, wd_end hK hP hD [0, 1, 2, 3, 4] (by decide) rfl t9 ht9 hW9⟩, hS.F ht9⟩) hS.2.2 dX9_placeRead_93 hlk
              · exact absurd rfl c_80
            · have n_60 := (nI_eq (a := (sgnN bb nb ta)) (b := 119) (by omega) (by omega)).mp c_60
              refine lv_iconst (v := nI 1) hx hb dX9_placeRead_63 (by decide) ?_
              refine lv_goto (tgt := 68) hx hb dX9_placeRead_64 (by decide) ?_
              refine va_put (D := Γ.1) (ci := 9) (v := .int (nI 1)) (ty := .boolean) (C := RX9) (T := TX9) (N := 11) hx hb hts (by decide +kernel) tyX9 tyX9_ok nmX9 hown hK hP hD hS 0 rfl rfl 7 (by decide) (hts (.fieldLink RX9 123 "RowVeilsModel" "isWell" "Z") (by decide +kernel)) (fun _ h9 => h9) rfl (by decide +kernel) rfl rfl (Nat.le_of_ble_eq_true rfl) dX9_placeRead_68 (fun H locs hP hD hS => ?_)
              have hP : gP Γ [(a 0, .inr (9, [.int (v 0), .ref (a 1), .ref (a 2), .int (v 1), .ref (a 3), .int (v 2), .int (v 3), .int (nI 1), .ref (a 4), .int (v 5), .long hs])), (a 1, .inl (Γ.2.1, 130, .inl (g 0))), (a 2, .inl (Γ.2.1, 780, .inl (g 1))), (a 3, .inl (Γ.2.1, 60, .inl (g 2))), (a 4, .inl (Γ.2.1, 88, .inl (g 3)))] H := hP
              have hD : va_D A [(a 0, .inr (9, [.int (v 0), .ref (a 1), .ref (a 2), .int (v 1), .ref (a 3), .int (v 2), .int (v 3), .int (nI 1), .ref (a 4), .int (v 5), .long hs])), (a 1, .inl (Γ.2.1, 130, .inl (g 0))), (a 2, .inl (Γ.2.1, 780, .inl (g 1))), (a 3, .inl (Γ.2.1, 60, .inl (g 2))), (a 4, .inl (Γ.2.1, 88, .inl (g 3)))] := hD
              refine lv_aload_n hx hb dX9_placeRead_71 rfl (lv_at hl 1 rfl) ?_
              refine lv_dup hx hb dX9_placeRead_72 rfl ?_
              refine va_get (D := Γ.1) (ci := 9) (v := .int (v 3)) (C := RX9) (T := TX9) (N := 11) hx hb hts (by decide +kernel) hown hK hP 0 rfl rfl 6 (by decide) (hts (.fieldLink RX9 120 "RowVeilsModel" "at" "I") (by decide +kernel)) (fun _ h9 => h9) rfl dX9_placeRead_73 ?_
              refine asi (z := nI ta) (h3) ?_
              refine lv_aload_n hx hb dX9_placeRead_76 rfl (lv_at hl 1 rfl) ?_
              refine va_get (D := Γ.1) (ci := 9) (v := .int (nI 1)) (C := RX9) (T := TX9) (N := 11) hx hb hts (by decide +kernel) hown hK hP 0 rfl rfl 7 (by decide) (hts (.fieldLink RX9 123 "RowVeilsModel" "isWell" "Z") (by decide +kernel)) (fun _ h9 => h9) rfl dX9_placeRead_77 ?_
              refine lv_if_eq (tgt := 87) hx hb dX9_placeRead_80 (by decide) (fun c_80 => ?_) (fun c_80 => ?_)
              · exact absurd c_80 (by decide)
              · refine lv_iconst (v := nI 1) hx hb dX9_placeRead_83 (by decide) ?_
                refine lv_goto (tgt := 88) hx hb dX9_placeRead_84 (by decide) ?_
                refine lv_iadd hx hb dX9_placeRead_88 ?_
                refine asi (z := nI (ta + 1)) (nI_add _ _) ?_
                refine va_put (D := Γ.1) (ci := 9) (v := .int (nI (ta + 1))) (ty := .int) (C := RX9) (T := TX9) (N := 11) hx hb hts (by decide +kernel) tyX9 tyX9_ok nmX9 hown hK hP hD hS 0 rfl rfl 6 (by decide) (hts (.fieldLink RX9 120 "RowVeilsModel" "at" "I") (by decide +kernel)) (fun _ h9 => h9) rfl (by decide +kernel) rfl rfl (Nat.le_of_ble_eq_true rfl) dX9_placeRead_89 (fun H locs hP hD hS => ?_)
                have hP : gP Γ [(a 0, .inr (9, [.int (v 0), .ref (a 1), .ref (a 2), .int (v 1), .ref (a 3), .int (v 2), .int (nI (ta + 1)), .int (nI 1), .ref (a 4), .int (v 5), .long hs])), (a 1, .inl (Γ.2.1, 130, .inl (g 0))), (a 2, .inl (Γ.2.1, 780, .inl (g 1))), (a 3, .inl (Γ.2.1, 60, .inl (g 2))), (a 4, .inl (Γ.2.1, 88, .inl (g 3)))] H := hP
                have hD : va_D A [(a 0, .inr (9, [.int (v 0), .ref (a 1), .ref (a 2), .int (v 1), .ref (a 3), .int (v 2), .int (nI (ta + 1)), .int (nI 1), .ref (a 4), .int (v 5), .long hs])), (a 1, .inl (Γ.2.1, 130, .inl (g 0))), (a 2, .inl (Γ.2.1, 780, .inl (g 1))), (a 3, .inl (Γ.2.1, 60, .inl (g 2))), (a 4, .inl (Γ.2.1, 88, .inl (g 3)))] := hD
                refine lv_iload_n hx hb dX9_placeRead_92 rfl (lv_at hl 0 rfl) ?_
                exact W.iret (v := nI 3) hx hb hrt (fun t9 ht9 hW9 => ⟨⟨_, (va_up (va_up v 3 (nI (ta + 1))) 4 (nI 1), hs, g), rfl, ⟨(by unfold plM; rw [if_neg n_6, if_neg n_19, if_neg n_32]), TS.t (by rw [n_46, n_60]; rfl), rfl⟩, wd_end hK hP hD [0, 1, 2, 3, 4] (by decide) rfl t9 ht9 hW9⟩, hS.F ht9⟩) hS.2.2 dX9_placeRead_93 hlk
      · have n_32 := (nI_eq (a := (sgnN bb nb ta)) (b := 115) (by omega) (by omega)).mp c_32
        refine lv_iconst (v := nI 2) hx hb dX9_placeRead_35 (by decide) ?_
        refine lv_goto (tgt := 40) hx hb dX9_placeRead_36 (by decide) ?_
        refine lv_istore_n (lv' := [(1, .int (nI 2)), (0, .ref (a 0))]) hx hb dX9_placeRead_40 rfl hl (by decide) rfl (fun ls hl => ?_)
        refine lv_aload_n hx hb dX9_placeRead_41 rfl (lv_at hl 1 rfl) ?_
        refine lv_aload_n hx hb dX9_placeRead_42 rfl (lv_at hl 1 rfl) ?_
        refine va_get (D := Γ.1) (ci := 9) (v := .int (v 4)) (C := RX9) (T := TX9) (N := 11) hx hb hts (by decide +kernel) hown hK hP 0 rfl rfl 7 (by decide) (hts (.fieldLink RX9 123 "RowVeilsModel" "isWell" "Z") (by decide +kernel)) (fun _ h9 => h9) rfl dX9_placeRead_43 ?_
        refine asi (z := bI w) (h4) ?_
        refine lv_if_eq (tgt := 67) hx hb dX9_placeRead_46 (by decide) (fun c_46 => ?_) (fun c_46 => ?_)
        · have n_46 := bI_z.mp c_46
          refine lv_iconst (v := nI 0) hx hb dX9_placeRead_67 (by decide) ?_
          refine va_put (D := Γ.1) (ci := 9) (v := .int (nI 0)) (ty := .boolean) (C := RX9) (T := TX9) (N := 11) hx hb hts (by decide +kernel) tyX9 tyX9_ok nmX9 hown hK hP hD hS 0 rfl rfl 7 (by decide) (hts (.fieldLink RX9 123 "RowVeilsModel" "isWell" "Z") (by decide +kernel)) (fun _ h9 => h9) rfl (by decide +kernel) rfl rfl (Nat.le_of_ble_eq_true rfl) dX9_placeRead_68 (fun H locs hP hD hS => ?_)
          have hP : gP Γ [(a 0, .inr (9, [.int (v 0), .ref (a 1), .ref (a 2), .int (v 1), .ref (a 3), .int (v 2), .int (v 3), .int (nI 0), .ref (a 4), .int (v 5), .long hs])), (a 1, .inl (Γ.2.1, 130, .inl (g 0))), (a 2, .inl (Γ.2.1, 780, .inl (g 1))), (a 3, .inl (Γ.2.1, 60, .inl (g 2))), (a 4, .inl (Γ.2.1, 88, .inl (g 3)))] H := hP
          have hD : va_D A [(a 0, .inr (9, [.int (v 0), .ref (a 1), .ref (a 2), .int (v 1), .ref (a 3), .int (v 2), .int (v 3), .int (nI 0), .ref (a 4), .int (v 5), .long hs])), (a 1, .inl (Γ.2.1, 130, .inl (g 0))), (a 2, .inl (Γ.2.1, 780, .inl (g 1))), (a 3, .inl (Γ.2.1, 60, .inl (g 2))), (a 4, .inl (Γ.2.1, 88, .inl (g 3)))] := hD
          refine lv_aload_n hx hb dX9_placeRead_71 rfl (lv_at hl 1 rfl) ?_
          refine lv_dup hx hb dX9_placeRead_72 rfl ?_
          refine va_get (D := Γ.1) (ci := 9) (v := .int (v 3)) (C := RX9) (T := TX9) (N := 11) hx hb hts (by decide +kernel) hown hK hP 0 rfl rfl 6 (by decide) (hts (.fieldLink RX9 120 "RowVeilsModel" "at" "I") (by decide +kernel)) (fun _ h9 => h9) rfl dX9_placeRead_73 ?_
          refine asi (z := nI ta) (h3) ?_
          refine lv_aload_n hx hb dX9_placeRead_76 rfl (lv_at hl 1 rfl) ?_
          refine va_get (D := Γ.1) (ci := 9) (v := .int (nI 0)) (C := RX9) (T := TX9) (N := 11) hx hb hts (by decide +kernel) hown hK hP 0 rfl rfl 7 (by decide) (hts (.fieldLink RX9 123 "RowVeilsModel" "isWell" "Z") (by decide +kernel)) (fun _ h9 => h9) rfl dX9_placeRead_77 ?_
          refine lv_if_eq (tgt := 87) hx hb dX9_placeRead_80 (by decide) (fun c_80 => ?_) (fun c_80 => ?_)
          · refine lv_iconst (v := nI 0) hx hb dX9_placeRead_87 (by decide) ?_
            refine lv_iadd hx hb dX9_placeRead_88 ?_
            refine asi (z := nI (ta + 0)) (nI_add _ _) ?_
            refine va_put (D := Γ.1) (ci := 9) (v := .int (nI (ta + 0))) (ty := .int) (C := RX9) (T := TX9) (N := 11) hx hb hts (by decide +kernel) tyX9 tyX9_ok nmX9 hown hK hP hD hS 0 rfl rfl 6 (by decide) (hts (.fieldLink RX9 120 "RowVeilsModel" "at" "I") (by decide +kernel)) (fun _ h9 => h9) rfl (by decide +kernel) rfl rfl (Nat.le_of_ble_eq_true rfl) dX9_placeRead_89 (fun H locs hP hD hS => ?_)
            have hP : gP Γ [(a 0, .inr (9, [.int (v 0), .ref (a 1), .ref (a 2), .int (v 1), .ref (a 3), .int (v 2), .int (nI (ta + 0)), .int (nI 0), .ref (a 4), .int (v 5), .long hs])), (a 1, .inl (Γ.2.1, 130, .inl (g 0))), (a 2, .inl (Γ.2.1, 780, .inl (g 1))), (a 3, .inl (Γ.2.1, 60, .inl (g 2))), (a 4, .inl (Γ.2.1, 88, .inl (g 3)))] H := hP
            have hD : va_D A [(a 0, .inr (9, [.int (v 0), .ref (a 1), .ref (a 2), .int (v 1), .ref (a 3), .int (v 2), .int (nI (ta + 0)), .int (nI 0), .ref (a 4), .int (v 5), .long hs])), (a 1, .inl (Γ.2.1, 130, .inl (g 0))), (a 2, .inl (Γ.2.1, 780, .inl (g 1))), (a 3, .inl (Γ.2.1, 60, .inl (g 2))), (a 4, .inl (Γ.2.1, 88, .inl (g 3)))] := hD
            refine lv_iload_n hx hb dX9_placeRead_92 rfl (lv_at hl 0 rfl) ?_
            exact W.iret (v := nI 2) hx hb hrt (fun t9 ht9 hW9 => ⟨⟨_, (va_up (va_up v 3 (nI (ta + 0))) 4 (nI 0), hs, g), rfl, ⟨(by unfold plM; rw [if_neg n_6, if_neg n_19, if_pos n_32]), TS.f (by first | (rw [n_46]; rfl) | (unfold plN; rw [if_neg n_6, if_neg n_19, if_neg n_32, if_neg n_60, n_46]; rfl)), rfl⟩, wd_end hK hP hD [0, 1, 2, 3, 4] (by decide) rfl t9 ht9 hW9⟩, hS.F ht9⟩) hS.2.2 dX9_placeRead_93 hlk
          · exact absurd rfl c_80
        · have n_46 := bI_nz.mp c_46
          refine lv_iload_n hx hb dX9_placeRead_49 rfl (lv_at hl 0 rfl) ?_
          refine lv_iconst (v := nI 3) hx hb dX9_placeRead_50 (by decide) ?_
          refine lv_icmp_lt (tgt := 63) hx hb dX9_placeRead_51 (by decide) (fun c_51 => ?_) (fun c_51 => ?_)
          · refine lv_iconst (v := nI 1) hx hb dX9_placeRead_63 (by decide) ?_
            refine lv_goto (tgt := 68) hx hb dX9_placeRead_64 (by decide) ?_
            refine va_put (D := Γ.1) (ci := 9) (v := .int (nI 1)) (ty := .boolean) (C := RX9) (T := TX9) (N := 11) hx hb hts (by decide +kernel) tyX9 tyX9_ok nmX9 hown hK hP hD hS 0 rfl rfl 7 (by decide) (hts (.fieldLink RX9 123 "RowVeilsModel" "isWell" "Z") (by decide +kernel)) (fun _ h9 => h9) rfl (by decide +kernel) rfl rfl (Nat.le_of_ble_eq_true rfl) dX9_placeRead_68 (fun H locs hP hD hS => ?_)
            have hP : gP Γ [(a 0, .inr (9, [.int (v 0), .ref (a 1), .ref (a 2), .int (v 1), .ref (a 3), .int (v 2), .int (v 3), .int (nI 1), .ref (a 4), .int (v 5), .long hs])), (a 1, .inl (Γ.2.1, 130, .inl (g 0))), (a 2, .inl (Γ.2.1, 780, .inl (g 1))), (a 3, .inl (Γ.2.1, 60, .inl (g 2))), (a 4, .inl (Γ.2.1, 88, .inl (g 3)))] H := hP
            have hD : va_D A [(a 0, .inr (9, [.int (v 0), .ref (a 1), .ref (a 2), .int (v 1), .ref (a 3), .int (v 2), .int (v 3), .int (nI 1), .ref (a 4), .int (v 5), .long hs])), (a 1, .inl (Γ.2.1, 130, .inl (g 0))), (a 2, .inl (Γ.2.1, 780, .inl (g 1))), (a 3, .inl (Γ.2.1, 60, .inl (g 2))), (a 4, .inl (Γ.2.1, 88, .inl (g 3)))] := hD
            refine lv_aload_n hx hb dX9_placeRead_71 rfl (lv_at hl 1 rfl) ?_
            refine lv_dup hx hb dX9_placeRead_72 rfl ?_
            refine va_get (D := Γ.1) (ci := 9) (v := .int (v 3)) (C := RX9) (T := TX9) (N := 11) hx hb hts (by decide +kernel) hown hK hP 0 rfl rfl 6 (by decide) (hts (.fieldLink RX9 120 "RowVeilsModel" "at" "I") (by decide +kernel)) (fun _ h9 => h9) rfl dX9_placeRead_73 ?_
            refine asi (z := nI ta) (h3) ?_
            refine lv_aload_n hx hb dX9_placeRead_76 rfl (lv_at hl 1 rfl) ?_
            refine va_get (D := Γ.1) (ci := 9) (v := .int (nI 1)) (C := RX9) (T := TX9) (N := 11) hx hb hts (by decide +kernel) hown hK hP 0 rfl rfl 7 (by decide) (hts (.fieldLink RX9 123 "RowVeilsModel" "isWell" "Z") (by decide +kernel)) (fun _ h9 => h9) rfl dX9_placeRead_77 ?_
            refine lv_if_eq (tgt := 87) hx hb dX9_placeRead_80 (by decide) (fun c_80 => ?_) (fun c_80 => ?_)
            · exact absurd c_80 (by decide)
            · refine lv_iconst (v := nI 1) hx hb dX9_placeRead_83 (by decide) ?_
              refine lv_goto (tgt := 88) hx hb dX9_placeRead_84 (by decide) ?_
              refine lv_iadd hx hb dX9_placeRead_88 ?_
              refine asi (z := nI (ta + 1)) (nI_add _ _) ?_
              refine va_put (D := Γ.1) (ci := 9) (v := .int (nI (ta + 1))) (ty := .int) (C := RX9) (T := TX9) (N := 11) hx hb hts (by decide +kernel) tyX9 tyX9_ok nmX9 hown hK hP hD hS 0 rfl rfl 6 (by decide) (hts (.fieldLink RX9 120 "RowVeilsModel" "at" "I") (by decide +kernel)) (fun _ h9 => h9) rfl (by decide +kernel) rfl rfl (Nat.le_of_ble_eq_true rfl) dX9_placeRead_89 (fun H locs hP hD hS => ?_)
              have hP : gP Γ [(a 0, .inr (9, [.int (v 0), .ref (a 1), .ref (a 2), .int (v 1), .ref (a 3), .int (v 2), .int (nI (ta + 1)), .int (nI 1), .ref (a 4), .int (v 5), .long hs])), (a 1, .inl (Γ.2.1, 130, .inl (g 0))), (a 2, .inl (Γ.2.1, 780, .inl (g 1))), (a 3, .inl (Γ.2.1, 60, .inl (g 2))), (a 4, .inl (Γ.2.1, 88, .inl (g 3)))] H := hP
              have hD : va_D A [(a 0, .inr (9, [.int (v 0), .ref (a 1), .ref (a 2), .int (v 1), .ref (a 3), .int (v 2), .int (nI (ta + 1)), .int (nI 1), .ref (a 4), .int (v 5), .long hs])), (a 1, .inl (Γ.2.1, 130, .inl (g 0))), (a 2, .inl (Γ.2.1, 780, .inl (g 1))), (a 3, .inl (Γ.2.1, 60, .inl (g 2))), (a 4, .inl (Γ.2.1, 88, .inl (g 3)))] := hD
              refine lv_iload_n hx hb dX9_placeRead_92 rfl (lv_at hl 0 rfl) ?_
              exact W.iret (v := nI 2) hx hb hrt (fun t9 ht9 hW9 => ⟨⟨_, (va_up (va_up v 3 (nI (ta + 1))) 4 (nI 1), hs, g), rfl, ⟨(by unfold plM; rw [if_neg n_6, if_neg n_19, if_pos n_32]), TS.t (by rw [n_46, n_32]; rfl), rfl⟩, wd_end hK hP hD [0, 1, 2, 3, 4] (by decide) rfl t9 ht9 hW9⟩, hS.F ht9⟩) hS.2.2 dX9_placeRead_93 hlk
          · exact absurd (by decide) c_51
    · have n_19 := (nI_eq (a := (sgnN bb nb ta)) (b := 101) (by omega) (by omega)).mp c_19
      refine lv_iconst (v := nI 1) hx hb dX9_placeRead_22 (by decide) ?_
      refine lv_goto (tgt := 40) hx hb dX9_placeRead_23 (by decide) ?_
      refine lv_istore_n (lv' := [(1, .int (nI 1)), (0, .ref (a 0))]) hx hb dX9_placeRead_40 rfl hl (by decide) rfl (fun ls hl => ?_)
      refine lv_aload_n hx hb dX9_placeRead_41 rfl (lv_at hl 1 rfl) ?_
      refine lv_aload_n hx hb dX9_placeRead_42 rfl (lv_at hl 1 rfl) ?_
      refine va_get (D := Γ.1) (ci := 9) (v := .int (v 4)) (C := RX9) (T := TX9) (N := 11) hx hb hts (by decide +kernel) hown hK hP 0 rfl rfl 7 (by decide) (hts (.fieldLink RX9 123 "RowVeilsModel" "isWell" "Z") (by decide +kernel)) (fun _ h9 => h9) rfl dX9_placeRead_43 ?_
      refine asi (z := bI w) (h4) ?_
      refine lv_if_eq (tgt := 67) hx hb dX9_placeRead_46 (by decide) (fun c_46 => ?_) (fun c_46 => ?_)
      · have n_46 := bI_z.mp c_46
        refine lv_iconst (v := nI 0) hx hb dX9_placeRead_67 (by decide) ?_
        refine va_put (D := Γ.1) (ci := 9) (v := .int (nI 0)) (ty := .boolean) (C := RX9) (T := TX9) (N := 11) hx hb hts (by decide +kernel) tyX9 tyX9_ok nmX9 hown hK hP hD hS 0 rfl rfl 7 (by decide) (hts (.fieldLink RX9 123 "RowVeilsModel" "isWell" "Z") (by decide +kernel)) (fun _ h9 => h9) rfl (by decide +kernel) rfl rfl (Nat.le_of_ble_eq_true rfl) dX9_placeRead_68 (fun H locs hP hD hS => ?_)
        have hP : gP Γ [(a 0, .inr (9, [.int (v 0), .ref (a 1), .ref (a 2), .int (v 1), .ref (a 3), .int (v 2), .int (v 3), .int (nI 0), .ref (a 4), .int (v 5), .long hs])), (a 1, .inl (Γ.2.1, 130, .inl (g 0))), (a 2, .inl (Γ.2.1, 780, .inl (g 1))), (a 3, .inl (Γ.2.1, 60, .inl (g 2))), (a 4, .inl (Γ.2.1, 88, .inl (g 3)))] H := hP
        have hD : va_D A [(a 0, .inr (9, [.int (v 0), .ref (a 1), .ref (a 2), .int (v 1), .ref (a 3), .int (v 2), .int (v 3), .int (nI 0), .ref (a 4), .int (v 5), .long hs])), (a 1, .inl (Γ.2.1, 130, .inl (g 0))), (a 2, .inl (Γ.2.1, 780, .inl (g 1))), (a 3, .inl (Γ.2.1, 60, .inl (g 2))), (a 4, .inl (Γ.2.1, 88, .inl (g 3)))] := hD
        refine lv_aload_n hx hb dX9_placeRead_71 rfl (lv_at hl 1 rfl) ?_
        refine lv_dup hx hb dX9_placeRead_72 rfl ?_
        refine va_get (D := Γ.1) (ci := 9) (v := .int (v 3)) (C := RX9) (T := TX9) (N := 11) hx hb hts (by decide +kernel) hown hK hP 0 rfl rfl 6 (by decide) (hts (.fieldLink RX9 120 "RowVeilsModel" "at" "I") (by decide +kernel)) (fun _ h9 => h9) rfl dX9_placeRead_73 ?_
        refine asi (z := nI ta) (h3) ?_
        refine lv_aload_n hx hb dX9_placeRead_76 rfl (lv_at hl 1 rfl) ?_
        refine va_get (D := Γ.1) (ci := 9) (v := .int (nI 0)) (C := RX9) (T := TX9) (N := 11) hx hb hts (by decide +kernel) hown hK hP 0 rfl rfl 7 (by decide) (hts (.fieldLink RX9 123 "RowVeilsModel" "isWell" "Z") (by decide +kernel)) (fun _ h9 => h9) rfl dX9_placeRead_77 ?_
        refine lv_if_eq (tgt := 87) hx hb dX9_placeRead_80 (by decide) (fun c_80 => ?_) (fun c_80 => ?_)
        · refine lv_iconst (v := nI 0) hx hb dX9_placeRead_87 (by decide) ?_
          refine lv_iadd hx hb dX9_placeRead_88 ?_
          refine asi (z := nI (ta + 0)) (nI_add _ _) ?_
          refine va_put (D := Γ.1) (ci := 9) (v := .int (nI (ta + 0))) (ty := .int) (C := RX9) (T := TX9) (N := 11) hx hb hts (by decide +kernel) tyX9 tyX9_ok nmX9 hown hK hP hD hS 0 rfl rfl 6 (by decide) (hts (.fieldLink RX9 120 "RowVeilsModel" "at" "I") (by decide +kernel)) (fun _ h9 => h9) rfl (by decide +kernel) rfl rfl (Nat.le_of_ble_eq_true rfl) dX9_placeRead_89 (fun H locs hP hD hS => ?_)
          have hP : gP Γ [(a 0, .inr (9, [.int (v 0), .ref (a 1), .ref (a 2), .int (v 1), .ref (a 3), .int (v 2), .int (nI (ta + 0)), .int (nI 0), .ref (a 4), .int (v 5), .long hs])), (a 1, .inl (Γ.2.1, 130, .inl (g 0))), (a 2, .inl (Γ.2.1, 780, .inl (g 1))), (a 3, .inl (Γ.2.1, 60, .inl (g 2))), (a 4, .inl (Γ.2.1, 88, .inl (g 3)))] H := hP
          have hD : va_D A [(a 0, .inr (9, [.int (v 0), .ref (a 1), .ref (a 2), .int (v 1), .ref (a 3), .int (v 2), .int (nI (ta + 0)), .int (nI 0), .ref (a 4), .int (v 5), .long hs])), (a 1, .inl (Γ.2.1, 130, .inl (g 0))), (a 2, .inl (Γ.2.1, 780, .inl (g 1))), (a 3, .inl (Γ.2.1, 60, .inl (g 2))), (a 4, .inl (Γ.2.1, 88, .inl (g 3)))] := hD
          refine lv_iload_n hx hb dX9_placeRead_92 rfl (lv_at hl 0 rfl) ?_
          exact W.iret (v := nI 1) hx hb hrt (fun t9 ht9 hW9 => ⟨⟨_, (va_up (va_up v 3 (nI (ta + 0))) 4 (nI 0), hs, g), rfl, ⟨(by unfold plM; rw [if_neg n_6, if_pos n_19]), TS.f (by first | (rw [n_46]; rfl) | (unfold plN; rw [if_neg n_6, if_neg n_19, if_neg n_32, if_neg n_60, n_46]; rfl)), rfl⟩, wd_end hK hP hD [0, 1, 2, 3, 4] (by decide) rfl t9 ht9 hW9⟩, hS.F ht9⟩) hS.2.2 dX9_placeRead_93 hlk
        · exact absurd rfl c_80
      · have n_46 := bI_nz.mp c_46
        refine lv_iload_n hx hb dX9_placeRead_49 rfl (lv_at hl 0 rfl) ?_
        refine lv_iconst (v := nI 3) hx hb dX9_placeRead_50 (by decide) ?_
        refine lv_icmp_lt (tgt := 63) hx hb dX9_placeRead_51 (by decide) (fun c_51 => ?_) (fun c_51 => ?_)
        · refine lv_iconst (v := nI 1) hx hb dX9_placeRead_63 (by decide) ?_
          refine lv_goto (tgt := 68) hx hb dX9_placeRead_64 (by decide) ?_
          refine va_put (D := Γ.1) (ci := 9) (v := .int (nI 1)) (ty := .boolean) (C := RX9) (T := TX9) (N := 11) hx hb hts (by decide +kernel) tyX9 tyX9_ok nmX9 hown hK hP hD hS 0 rfl rfl 7 (by decide) (hts (.fieldLink RX9 123 "RowVeilsModel" "isWell" "Z") (by decide +kernel)) (fun _ h9 => h9) rfl (by decide +kernel) rfl rfl (Nat.le_of_ble_eq_true rfl) dX9_placeRead_68 (fun H locs hP hD hS => ?_)
          have hP : gP Γ [(a 0, .inr (9, [.int (v 0), .ref (a 1), .ref (a 2), .int (v 1), .ref (a 3), .int (v 2), .int (v 3), .int (nI 1), .ref (a 4), .int (v 5), .long hs])), (a 1, .inl (Γ.2.1, 130, .inl (g 0))), (a 2, .inl (Γ.2.1, 780, .inl (g 1))), (a 3, .inl (Γ.2.1, 60, .inl (g 2))), (a 4, .inl (Γ.2.1, 88, .inl (g 3)))] H := hP
          have hD : va_D A [(a 0, .inr (9, [.int (v 0), .ref (a 1), .ref (a 2), .int (v 1), .ref (a 3), .int (v 2), .int (v 3), .int (nI 1), .ref (a 4), .int (v 5), .long hs])), (a 1, .inl (Γ.2.1, 130, .inl (g 0))), (a 2, .inl (Γ.2.1, 780, .inl (g 1))), (a 3, .inl (Γ.2.1, 60, .inl (g 2))), (a 4, .inl (Γ.2.1, 88, .inl (g 3)))] := hD
          refine lv_aload_n hx hb dX9_placeRead_71 rfl (lv_at hl 1 rfl) ?_
          refine lv_dup hx hb dX9_placeRead_72 rfl ?_
          refine va_get (D := Γ.1) (ci := 9) (v := .int (v 3)) (C := RX9) (T := TX9) (N := 11) hx hb hts (by decide +kernel) hown hK hP 0 rfl rfl 6 (by decide) (hts (.fieldLink RX9 120 "RowVeilsModel" "at" "I") (by decide +kernel)) (fun _ h9 => h9) rfl dX9_placeRead_73 ?_
          refine asi (z := nI ta) (h3) ?_
          refine lv_aload_n hx hb dX9_placeRead_76 rfl (lv_at hl 1 rfl) ?_
          refine va_get (D := Γ.1) (ci := 9) (v := .int (nI 1)) (C := RX9) (T := TX9) (N := 11) hx hb hts (by decide +kernel) hown hK hP 0 rfl rfl 7 (by decide) (hts (.fieldLink RX9 123 "RowVeilsModel" "isWell" "Z") (by decide +kernel)) (fun _ h9 => h9) rfl dX9_placeRead_77 ?_
          refine lv_if_eq (tgt := 87) hx hb dX9_placeRead_80 (by decide) (fun c_80 => ?_) (fun c_80 => ?_)
          · exact absurd c_80 (by decide)
          · refine lv_iconst (v := nI 1) hx hb dX9_placeRead_83 (by decide) ?_
            refine lv_goto (tgt := 88) hx hb dX9_placeRead_84 (by decide) ?_
            refine lv_iadd hx hb dX9_placeRead_88 ?_
            refine asi (z := nI (ta + 1)) (nI_add _ _) ?_
            refine va_put (D := Γ.1) (ci := 9) (v := .int (nI (ta + 1))) (ty := .int) (C := RX9) (T := TX9) (N := 11) hx hb hts (by decide +kernel) tyX9 tyX9_ok nmX9 hown hK hP hD hS 0 rfl rfl 6 (by decide) (hts (.fieldLink RX9 120 "RowVeilsModel" "at" "I") (by decide +kernel)) (fun _ h9 => h9) rfl (by decide +kernel) rfl rfl (Nat.le_of_ble_eq_true rfl) dX9_placeRead_89 (fun H locs hP hD hS => ?_)
            have hP : gP Γ [(a 0, .inr (9, [.int (v 0), .ref (a 1), .ref (a 2), .int (v 1), .ref (a 3), .int (v 2), .int (nI (ta + 1)), .int (nI 1), .ref (a 4), .int (v 5), .long hs])), (a 1, .inl (Γ.2.1, 130, .inl (g 0))), (a 2, .inl (Γ.2.1, 780, .inl (g 1))), (a 3, .inl (Γ.2.1, 60, .inl (g 2))), (a 4, .inl (Γ.2.1, 88, .inl (g 3)))] H := hP
            have hD : va_D A [(a 0, .inr (9, [.int (v 0), .ref (a 1), .ref (a 2), .int (v 1), .ref (a 3), .int (v 2), .int (nI (ta + 1)), .int (nI 1), .ref (a 4), .int (v 5), .long hs])), (a 1, .inl (Γ.2.1, 130, .inl (g 0))), (a 2, .inl (Γ.2.1, 780, .inl (g 1))), (a 3, .inl (Γ.2.1, 60, .inl (g 2))), (a 4, .inl (Γ.2.1, 88, .inl (g 3)))] := hD
            refine lv_iload_n hx hb dX9_placeRead_92 rfl (lv_at hl 0 rfl) ?_
            exact W.iret (v := nI 1) hx hb hrt (fun t9 ht9 hW9 => ⟨⟨_, (va_up (va_up v 3 (nI (ta + 1))) 4 (nI 1), hs, g), rfl, ⟨(by unfold plM; rw [if_neg n_6, if_pos n_19]), TS.t (by rw [n_46, n_19]; rfl), rfl⟩, wd_end hK hP hD [0, 1, 2, 3, 4] (by decide) rfl t9 ht9 hW9⟩, hS.F ht9⟩) hS.2.2 dX9_placeRead_93 hlk
        · exact absurd (by decide) c_51
  · have n_6 := (nI_eq (a := (sgnN bb nb ta)) (b := 110) (by omega) (by omega)).mp c_6
    refine lv_iconst (v := nI 0) hx hb dX9_placeRead_9 (by decide) ?_
    refine lv_goto (tgt := 40) hx hb dX9_placeRead_10 (by decide) ?_
    refine lv_istore_n (lv' := [(1, .int (nI 0)), (0, .ref (a 0))]) hx hb dX9_placeRead_40 rfl hl (by decide) rfl (fun ls hl => ?_)
    refine lv_aload_n hx hb dX9_placeRead_41 rfl (lv_at hl 1 rfl) ?_
    refine lv_aload_n hx hb dX9_placeRead_42 rfl (lv_at hl 1 rfl) ?_
    refine va_get (D := Γ.1) (ci := 9) (v := .int (v 4)) (C := RX9) (T := TX9) (N := 11) hx hb hts (by decide +kernel) hown hK hP 0 rfl rfl 7 (by decide) (hts (.fieldLink RX9 123 "RowVeilsModel" "isWell" "Z") (by decide +kernel)) (fun _ h9 => h9) rfl dX9_placeRead_43 ?_
    refine asi (z := bI w) (h4) ?_
    refine lv_if_eq (tgt := 67) hx hb dX9_placeRead_46 (by decide) (fun c_46 => ?_) (fun c_46 => ?_)
    · have n_46 := bI_z.mp c_46
      refine lv_iconst (v := nI 0) hx hb dX9_placeRead_67 (by decide) ?_
      refine va_put (D := Γ.1) (ci := 9) (v := .int (nI 0)) (ty := .boolean) (C := RX9) (T := TX9) (N := 11) hx hb hts (by decide +kernel) tyX9 tyX9_ok nmX9 hown hK hP hD hS 0 rfl rfl 7 (by decide) (hts (.fieldLink RX9 123 "RowVeilsModel" "isWell" "Z") (by decide +kernel)) (fun _ h9 => h9) rfl (by decide +kernel) rfl rfl (Nat.le_of_ble_eq_true rfl) dX9_placeRead_68 (fun H locs hP hD hS => ?_)
      have hP : gP Γ [(a 0, .inr (9, [.int (v 0), .ref (a 1), .ref (a 2), .int (v 1), .ref (a 3), .int (v 2), .int (v 3), .int (nI 0), .ref (a 4), .int (v 5), .long hs])), (a 1, .inl (Γ.2.1, 130, .inl (g 0))), (a 2, .inl (Γ.2.1, 780, .inl (g 1))), (a 3, .inl (Γ.2.1, 60, .inl (g 2))), (a 4, .inl (Γ.2.1, 88, .inl (g 3)))] H := hP
      have hD : va_D A [(a 0, .inr (9, [.int (v 0), .ref (a 1), .ref (a 2), .int (v 1), .ref (a 3), .int (v 2), .int (v 3), .int (nI 0), .ref (a 4), .int (v 5), .long hs])), (a 1, .inl (Γ.2.1, 130, .inl (g 0))), (a 2, .inl (Γ.2.1, 780, .inl (g 1))), (a 3, .inl (Γ.2.1, 60, .inl (g 2))), (a 4, .inl (Γ.2.1, 88, .inl (g 3)))] := hD
      refine lv_aload_n hx hb dX9_placeRead_71 rfl (lv_at hl 1 rfl) ?_
      refine lv_dup hx hb dX9_placeRead_72 rfl ?_
      refine va_get (D := Γ.1) (ci := 9) (v := .int (v 3)) (C := RX9) (T := TX9) (N := 11) hx hb hts (by decide +kernel) hown hK hP 0 rfl rfl 6 (by decide) (hts (.fieldLink RX9 120 "RowVeilsModel" "at" "I") (by decide +kernel)) (fun _ h9 => h9) rfl dX9_placeRead_73 ?_
      refine asi (z := nI ta) (h3) ?_
      refine lv_aload_n hx hb dX9_placeRead_76 rfl (lv_at hl 1 rfl) ?_
      refine va_get (D := Γ.1) (ci := 9) (v := .int (nI 0)) (C := RX9) (T := TX9) (N := 11) hx hb hts (by decide +kernel) hown hK hP 0 rfl rfl 7 (by decide) (hts (.fieldLink RX9 123 "RowVeilsModel" "isWell" "Z") (by decide +kernel)) (fun _ h9 => h9) rfl dX9_placeRead_77 ?_
      refine lv_if_eq (tgt := 87) hx hb dX9_placeRead_80 (by decide) (fun c_80 => ?_) (fun c_80 => ?_)
      · refine lv_iconst (v := nI 0) hx hb dX9_placeRead_87 (by decide) ?_
        refine lv_iadd hx hb dX9_placeRead_88 ?_
        refine asi (z := nI (ta + 0)) (nI_add _ _) ?_
        refine va_put (D := Γ.1) (ci := 9) (v := .int (nI (ta + 0))) (ty := .int) (C := RX9) (T := TX9) (N := 11) hx hb hts (by decide +kernel) tyX9 tyX9_ok nmX9 hown hK hP hD hS 0 rfl rfl 6 (by decide) (hts (.fieldLink RX9 120 "RowVeilsModel" "at" "I") (by decide +kernel)) (fun _ h9 => h9) rfl (by decide +kernel) rfl rfl (Nat.le_of_ble_eq_true rfl) dX9_placeRead_89 (fun H locs hP hD hS => ?_)
        have hP : gP Γ [(a 0, .inr (9, [.int (v 0), .ref (a 1), .ref (a 2), .int (v 1), .ref (a 3), .int (v 2), .int (nI (ta + 0)), .int (nI 0), .ref (a 4), .int (v 5), .long hs])), (a 1, .inl (Γ.2.1, 130, .inl (g 0))), (a 2, .inl (Γ.2.1, 780, .inl (g 1))), (a 3, .inl (Γ.2.1, 60, .inl (g 2))), (a 4, .inl (Γ.2.1, 88, .inl (g 3)))] H := hP
        have hD : va_D A [(a 0, .inr (9, [.int (v 0), .ref (a 1), .ref (a 2), .int (v 1), .ref (a 3), .int (v 2), .int (nI (ta + 0)), .int (nI 0), .ref (a 4), .int (v 5), .long hs])), (a 1, .inl (Γ.2.1, 130, .inl (g 0))), (a 2, .inl (Γ.2.1, 780, .inl (g 1))), (a 3, .inl (Γ.2.1, 60, .inl (g 2))), (a 4, .inl (Γ.2.1, 88, .inl (g 3)))] := hD
        refine lv_iload_n hx hb dX9_placeRead_92 rfl (lv_at hl 0 rfl) ?_
        exact W.iret (v := nI 0) hx hb hrt (fun t9 ht9 hW9 => ⟨⟨_, (va_up (va_up v 3 (nI (ta + 0))) 4 (nI 0), hs, g), rfl, ⟨(by unfold plM; rw [if_pos n_6]), TS.f (by first | (rw [n_46]; rfl) | (unfold plN; rw [if_neg n_6, if_neg n_19, if_neg n_32, if_neg n_60, n_46]; rfl)), rfl⟩, wd_end hK hP hD [0, 1, 2, 3, 4] (by decide) rfl t9 ht9 hW9⟩, hS.F ht9⟩) hS.2.2 dX9_placeRead_93 hlk
      · exact absurd rfl c_80
    · have n_46 := bI_nz.mp c_46
      refine lv_iload_n hx hb dX9_placeRead_49 rfl (lv_at hl 0 rfl) ?_
      refine lv_iconst (v := nI 3) hx hb dX9_placeRead_50 (by decide) ?_
      refine lv_icmp_lt (tgt := 63) hx hb dX9_placeRead_51 (by decide) (fun c_51 => ?_) (fun c_51 => ?_)
      · refine lv_iconst (v := nI 1) hx hb dX9_placeRead_63 (by decide) ?_
        refine lv_goto (tgt := 68) hx hb dX9_placeRead_64 (by decide) ?_
        refine va_put (D := Γ.1) (ci := 9) (v := .int (nI 1)) (ty := .boolean) (C := RX9) (T := TX9) (N := 11) hx hb hts (by decide +kernel) tyX9 tyX9_ok nmX9 hown hK hP hD hS 0 rfl rfl 7 (by decide) (hts (.fieldLink RX9 123 "RowVeilsModel" "isWell" "Z") (by decide +kernel)) (fun _ h9 => h9) rfl (by decide +kernel) rfl rfl (Nat.le_of_ble_eq_true rfl) dX9_placeRead_68 (fun H locs hP hD hS => ?_)
        have hP : gP Γ [(a 0, .inr (9, [.int (v 0), .ref (a 1), .ref (a 2), .int (v 1), .ref (a 3), .int (v 2), .int (v 3), .int (nI 1), .ref (a 4), .int (v 5), .long hs])), (a 1, .inl (Γ.2.1, 130, .inl (g 0))), (a 2, .inl (Γ.2.1, 780, .inl (g 1))), (a 3, .inl (Γ.2.1, 60, .inl (g 2))), (a 4, .inl (Γ.2.1, 88, .inl (g 3)))] H := hP
        have hD : va_D A [(a 0, .inr (9, [.int (v 0), .ref (a 1), .ref (a 2), .int (v 1), .ref (a 3), .int (v 2), .int (v 3), .int (nI 1), .ref (a 4), .int (v 5), .long hs])), (a 1, .inl (Γ.2.1, 130, .inl (g 0))), (a 2, .inl (Γ.2.1, 780, .inl (g 1))), (a 3, .inl (Γ.2.1, 60, .inl (g 2))), (a 4, .inl (Γ.2.1, 88, .inl (g 3)))] := hD
        refine lv_aload_n hx hb dX9_placeRead_71 rfl (lv_at hl 1 rfl) ?_
        refine lv_dup hx hb dX9_placeRead_72 rfl ?_
        refine va_get (D := Γ.1) (ci := 9) (v := .int (v 3)) (C := RX9) (T := TX9) (N := 11) hx hb hts (by decide +kernel) hown hK hP 0 rfl rfl 6 (by decide) (hts (.fieldLink RX9 120 "RowVeilsModel" "at" "I") (by decide +kernel)) (fun _ h9 => h9) rfl dX9_placeRead_73 ?_
        refine asi (z := nI ta) (h3) ?_
        refine lv_aload_n hx hb dX9_placeRead_76 rfl (lv_at hl 1 rfl) ?_
        refine va_get (D := Γ.1) (ci := 9) (v := .int (nI 1)) (C := RX9) (T := TX9) (N := 11) hx hb hts (by decide +kernel) hown hK hP 0 rfl rfl 7 (by decide) (hts (.fieldLink RX9 123 "RowVeilsModel" "isWell" "Z") (by decide +kernel)) (fun _ h9 => h9) rfl dX9_placeRead_77 ?_
        refine lv_if_eq (tgt := 87) hx hb dX9_placeRead_80 (by decide) (fun c_80 => ?_) (fun c_80 => ?_)
        · exact absurd c_80 (by decide)
        · refine lv_iconst (v := nI 1) hx hb dX9_placeRead_83 (by decide) ?_
          refine lv_goto (tgt := 88) hx hb dX9_placeRead_84 (by decide) ?_
          refine lv_iadd hx hb dX9_placeRead_88 ?_
          refine asi (z := nI (ta + 1)) (nI_add _ _) ?_
          refine va_put (D := Γ.1) (ci := 9) (v := .int (nI (ta + 1))) (ty := .int) (C := RX9) (T := TX9) (N := 11) hx hb hts (by decide +kernel) tyX9 tyX9_ok nmX9 hown hK hP hD hS 0 rfl rfl 6 (by decide) (hts (.fieldLink RX9 120 "RowVeilsModel" "at" "I") (by decide +kernel)) (fun _ h9 => h9) rfl (by decide +kernel) rfl rfl (Nat.le_of_ble_eq_true rfl) dX9_placeRead_89 (fun H locs hP hD hS => ?_)
          have hP : gP Γ [(a 0, .inr (9, [.int (v 0), .ref (a 1), .ref (a 2), .int (v 1), .ref (a 3), .int (v 2), .int (nI (ta + 1)), .int (nI 1), .ref (a 4), .int (v 5), .long hs])), (a 1, .inl (Γ.2.1, 130, .inl (g 0))), (a 2, .inl (Γ.2.1, 780, .inl (g 1))), (a 3, .inl (Γ.2.1, 60, .inl (g 2))), (a 4, .inl (Γ.2.1, 88, .inl (g 3)))] H := hP
          have hD : va_D A [(a 0, .inr (9, [.int (v 0), .ref (a 1), .ref (a 2), .int (v 1), .ref (a 3), .int (v 2), .int (nI (ta + 1)), .int (nI 1), .ref (a 4), .int (v 5), .long hs])), (a 1, .inl (Γ.2.1, 130, .inl (g 0))), (a 2, .inl (Γ.2.1, 780, .inl (g 1))), (a 3, .inl (Γ.2.1, 60, .inl (g 2))), (a 4, .inl (Γ.2.1, 88, .inl (g 3)))] := hD
          refine lv_iload_n hx hb dX9_placeRead_92 rfl (lv_at hl 0 rfl) ?_
          exact W.iret (v := nI 0) hx hb hrt (fun t9 ht9 hW9 => ⟨⟨_, (va_up (va_up v 3 (nI (ta + 1))) 4 (nI 1), hs, g), rfl, ⟨(by unfold plM; rw [if_pos n_6]), TS.t (by rw [n_46, n_6]; rfl), rfl⟩, wd_end hK hP hD [0, 1, 2, 3, 4] (by decide) rfl t9 ht9 hW9⟩, hS.F ht9⟩) hS.2.2 dX9_placeRead_93 hlk
      · exact absurd (by decide) c_51

