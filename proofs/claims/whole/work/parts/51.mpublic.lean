theorem mas_p {im : Int32} (h : msQ im = true) : im + nI 1 = nI (masN im) := by
  unfold msQ at h
  rw [Bool.or_eq_true, decide_eq_true_eq] at h
  rcases h with rfl | h
  · decide
  · obtain ⟨k, hk, rfl⟩ := in_small (by decide) h
    exact (show ∀ k : Nat, k < 5 → nI k + nI 1 = nI (masN (nI k)) by decide) k (by omega)
theorem frc_t {u w : Nat} (hu : u < 16) (hw : w < 4) : (u &&& (2 ^ w ^^^ (2 ^ 32 - 1))) ||| 2 ^ w = frcN u w true := (show ∀ u, u < 16 → ∀ w, w < 4 → (u &&& (2 ^ w ^^^ (2 ^ 32 - 1))) ||| 2 ^ w = u ||| 2 ^ w by decide +kernel) u hu w hw
theorem qCode_le (p pl lo hi : Int32) : qCode p pl lo hi < 2 ^ 31 := by unfold qCode; (repeat' split) <;> decide
abbrev rm_X9_row : Room := { frames := 2, cells := 0, slots := 0, locals := 42 }
theorem k_X9_row : Cal yX9_row wsX9_row rm_X9_row cX9_row 5 (some .int) 4 0 0 := ⟨⟨_, rfl⟩, rfl, rfl, by decide +kernel⟩
set_option maxHeartbeats 4000000 in
set_option maxRecDepth 100000 in
theorem m_X9_row (l : Launch) (Γ : Gm) (sz : Nat) (a : Nat → Nat) (v : Nat → Int32) (hs : Int64) (g : Nat → Nat → Int32) (σ : Nat → Nat) (sc : Nat) (ss : Nat → Nat → Nat) (nb : Nat) (bb : Nat → Nat) (hX : MR σ sc ss nb bb v g) (io ia iv iw : Int32) : MWi (S := WtM) l yX9_row wsX9_row rm_X9_row Γ sz (wMd Γ a v hs g) [.ref (a 0), .int io, .int ia, .int iv, .int iw] (fun r u => MO (roC σ io ia iv iw) r (nI (σ 0)) (MR (rowS σ io.toNatClampNeg ia.toNatClampNeg iv.toNatClampNeg iw.toNatClampNeg) (svC sc) (svS sc ss σ) nb bb u.1 u.2.2) (MR σ sc ss nb bb u.1 u.2.2) (u.1 0)) (fun u => (wMd Γ a u.1 u.2.1 u.2.2)) 0 0 := by
  refine mW (cc := cX9_row) (maxL := 5) (ret := (some .int)) (own := RX9) (by decide) rfl rfl (Nat.le_of_ble_eq_true rfl) ?_
  intro p e s m args below meth c S hrt hlk hin hsz hK hP hD hA hS ls hl
  subst hsz
  generalize hAe : va_A (wMd Γ a v hs g) s.heap.size = A at hD hA hS ⊢
  obtain ⟨hx, hb, hml, hown, hts⟩ := id S
  obtain ⟨hM, hI, hc6, h1, h2, hBR, hSR⟩ := id hX
  have hn := hI.n
  have hl : lv_has ls 5 [(0, .ref (a 0)), (1, .int io), (2, .int ia), (3, .int iv), (4, .int iw)] := hl
  have hH : s.heap = s.heap := rfl
  refine lv_aload_n hx hb dX9_row_0 rfl (lv_at hl 0 rfl) ?_
  refine lv_iconst (v := nI 0) hx hb dX9_row_1 (by decide) ?_
  refine va_put (D := Γ.1) (ci := 9) (v := .int (nI 0)) (ty := .int) (C := RX9) (T := TX9) (N := 11) hx hb hts (by decide +kernel) tyX9 tyX9_ok nmX9 hown hK hP hD hS 0 rfl rfl 0 (by decide) (hts (.fieldLink RX9 22 "RowVeilsModel" "thrown" "I") (by decide +kernel)) (fun _ h9 => h9) rfl (by decide +kernel) rfl rfl (Nat.le_of_ble_eq_true rfl) dX9_row_2 (fun H locs hP hD hS => ?_)
  have hP : gP Γ [(a 0, .inr (9, [.int (nI 0), .ref (a 1), .ref (a 2), .int (v 1), .ref (a 3), .int (v 2), .int (v 3), .int (v 4), .ref (a 4), .int (v 5), .long hs])), (a 1, .inl (Γ.2.1, 130, .inl (g 0))), (a 2, .inl (Γ.2.1, 780, .inl (g 1))), (a 3, .inl (Γ.2.1, 60, .inl (g 2))), (a 4, .inl (Γ.2.1, 88, .inl (g 3)))] H := hP
  have hD : va_D A [(a 0, .inr (9, [.int (nI 0), .ref (a 1), .ref (a 2), .int (v 1), .ref (a 3), .int (v 2), .int (v 3), .int (v 4), .ref (a 4), .int (v 5), .long hs])), (a 1, .inl (Γ.2.1, 130, .inl (g 0))), (a 2, .inl (Γ.2.1, 780, .inl (g 1))), (a 3, .inl (Γ.2.1, 60, .inl (g 2))), (a 4, .inl (Γ.2.1, 88, .inl (g 3)))] := hD
  refine lv_iload_n hx hb dX9_row_5 rfl (lv_at hl 1 rfl) ?_
  refine cSi (As := [.int io]) (rest := []) (m_X9_isPerson l io) S k_X9_isPerson gX9_row_X9_isPerson ⟨Nat.le_of_ble_eq_true rfl, Nat.le_of_ble_eq_true rfl⟩ rfl hl.1 (Nat.le_of_ble_eq_true rfl) rfl dX9_row_6 ⟨Nat.le_of_ble_eq_true rfl, Nat.le_of_ble_eq_true rfl⟩ (fun r hr => ?_)
  subst hr
  refine lv_if_eq (tgt := 21) hx hb dX9_row_9 (by decide) (fun c_9 => ?_) (fun c_9 => ?_)
  · have n_9 := bI_z.mp c_9
    refine lv_aload_n hx hb dX9_row_21 rfl (lv_at hl 0 rfl) ?_
    refine lv_iconst (v := nI 1) hx hb dX9_row_22 (by decide) ?_
    refine cWi (As := [.int (nI 1)]) (rest := []) (wr := []) (m_X9_fails l Γ _ a (va_up v 0 (nI 0)) hs g (nI 1)) S k_X9_fails gX9_row_X9_fails rfl ⟨Nat.le_of_ble_eq_true rfl, Nat.le_of_ble_eq_true rfl⟩ hK hP hD hS hA [0, 1, 2, 3, 4] [] rfl rfl (by decide) (by decide) (by decide) 0 (ci := 9) rfl rfl rfl rfl hl.1 (Nat.le_of_ble_eq_true rfl) rfl dX9_row_23 ⟨Nat.le_of_ble_eq_true rfl, Nat.le_of_ble_eq_true rfl⟩ (fun r u H locs hr hP hD hS => ?_)
    have hP : gP Γ [(a 0, .inr (9, [.int (nI 1), .ref (a 1), .ref (a 2), .int (v 1), .ref (a 3), .int (v 2), .int (v 3), .int (v 4), .ref (a 4), .int (v 5), .long hs])), (a 1, .inl (Γ.2.1, 130, .inl (g 0))), (a 2, .inl (Γ.2.1, 780, .inl (g 1))), (a 3, .inl (Γ.2.1, 60, .inl (g 2))), (a 4, .inl (Γ.2.1, 88, .inl (g 3)))] H := hP
    have hD : va_D A [(a 0, .inr (9, [.int (nI 1), .ref (a 1), .ref (a 2), .int (v 1), .ref (a 3), .int (v 2), .int (v 3), .int (v 4), .ref (a 4), .int (v 5), .long hs])), (a 1, .inl (Γ.2.1, 130, .inl (g 0))), (a 2, .inl (Γ.2.1, 780, .inl (g 1))), (a 3, .inl (Γ.2.1, 60, .inl (g 2))), (a 4, .inl (Γ.2.1, 88, .inl (g 3)))] := hD
    subst hr
    exact W.iret (v := nI 0) hx hb hrt (fun t9 ht9 hW9 => ⟨⟨_, (va_up v 0 (nI 1), hs, g), rfl, MO.bad (k := 0) (by unfold roC; first | (rw [n_9]; rfl) | (rw [n_9, n_18]; rfl)) rfl rfl (hX.th rfl rfl), wd_end hK hP hD [0, 1, 2, 3, 4] (by decide) rfl t9 ht9 hW9⟩, hS.F ht9⟩) hS.2.2 dX9_row_26 hlk
  · have n_9 := bI_nz.mp c_9
    refine lv_iload_n hx hb dX9_row_12 rfl (lv_at hl 2 rfl) ?_
    refine lv_iconst (v := nI 0) hx hb dX9_row_13 (by decide) ?_
    refine lv_iconst (v := nI 3) hx hb dX9_row_14 (by decide) ?_
    refine cSi (As := [.int ia, .int (nI 0), .int (nI 3)]) (rest := []) (m_X9_in l ia (nI 0) (nI 3)) S k_X9_in gX9_row_X9_in ⟨Nat.le_of_ble_eq_true rfl, Nat.le_of_ble_eq_true rfl⟩ rfl hl.1 (Nat.le_of_ble_eq_true rfl) rfl dX9_row_15 ⟨Nat.le_of_ble_eq_true rfl, Nat.le_of_ble_eq_true rfl⟩ (fun r hr => ?_)
    subst hr
    refine lv_if_ne (tgt := 27) hx hb dX9_row_18 (by decide) (fun c_18 => ?_) (fun c_18 => ?_)
    · have n_18 := bI_nz.mp c_18
      refine lv_iload_n hx hb dX9_row_27 rfl (lv_at hl 3 rfl) ?_
      refine lv_iconst (v := nI 0) hx hb dX9_row_28 (by decide) ?_
      refine lv_bipush (v := nI 99) hx hb dX9_row_29 (by decide) ?_
      refine cSi (As := [.int iv, .int (nI 0), .int (nI 99)]) (rest := []) (m_X9_in l iv (nI 0) (nI 99)) S k_X9_in gX9_row_X9_in ⟨Nat.le_of_ble_eq_true rfl, Nat.le_of_ble_eq_true rfl⟩ rfl hl.1 (Nat.le_of_ble_eq_true rfl) rfl dX9_row_31 ⟨Nat.le_of_ble_eq_true rfl, Nat.le_of_ble_eq_true rfl⟩ (fun r hr => ?_)
      subst hr
      refine lv_if_eq (tgt := 47) hx hb dX9_row_34 (by decide) (fun c_34 => ?_) (fun c_34 => ?_)
      · have n_34 := bI_z.mp c_34
        refine lv_aload_n hx hb dX9_row_47 rfl (lv_at hl 0 rfl) ?_
        refine lv_iconst (v := nI 2) hx hb dX9_row_48 (by decide) ?_
        refine cWi (As := [.int (nI 2)]) (rest := []) (wr := []) (m_X9_fails l Γ _ a (va_up v 0 (nI 0)) hs g (nI 2)) S k_X9_fails gX9_row_X9_fails rfl ⟨Nat.le_of_ble_eq_true rfl, Nat.le_of_ble_eq_true rfl⟩ hK hP hD hS hA [0, 1, 2, 3, 4] [] rfl rfl (by decide) (by decide) (by decide) 0 (ci := 9) rfl rfl rfl rfl hl.1 (Nat.le_of_ble_eq_true rfl) rfl dX9_row_49 ⟨Nat.le_of_ble_eq_true rfl, Nat.le_of_ble_eq_true rfl⟩ (fun r u H locs hr hP hD hS => ?_)
        have hP : gP Γ [(a 0, .inr (9, [.int (nI 2), .ref (a 1), .ref (a 2), .int (v 1), .ref (a 3), .int (v 2), .int (v 3), .int (v 4), .ref (a 4), .int (v 5), .long hs])), (a 1, .inl (Γ.2.1, 130, .inl (g 0))), (a 2, .inl (Γ.2.1, 780, .inl (g 1))), (a 3, .inl (Γ.2.1, 60, .inl (g 2))), (a 4, .inl (Γ.2.1, 88, .inl (g 3)))] H := hP
        have hD : va_D A [(a 0, .inr (9, [.int (nI 2), .ref (a 1), .ref (a 2), .int (v 1), .ref (a 3), .int (v 2), .int (v 3), .int (v 4), .ref (a 4), .int (v 5), .long hs])), (a 1, .inl (Γ.2.1, 130, .inl (g 0))), (a 2, .inl (Γ.2.1, 780, .inl (g 1))), (a 3, .inl (Γ.2.1, 60, .inl (g 2))), (a 4, .inl (Γ.2.1, 88, .inl (g 3)))] := hD
        subst hr
        exact W.iret (v := nI 0) hx hb hrt (fun t9 ht9 hW9 => ⟨⟨_, (va_up v 0 (nI 2), hs, g), rfl, MO.bad (k := 1) (by unfold roC; first | (rw [n_9, n_18, n_34]; rfl) | (rw [n_9, n_18, n_34, n_44]; rfl)) rfl rfl (hX.th rfl rfl), wd_end hK hP hD [0, 1, 2, 3, 4] (by decide) rfl t9 ht9 hW9⟩, hS.F ht9⟩) hS.2.2 dX9_row_52 hlk
      · have n_34 := bI_nz.mp c_34
        refine lv_iload hx hb dX9_row_37 (lv_at hl 4 rfl) ?_
        refine lv_iconst (v := nI 0) hx hb dX9_row_39 (by decide) ?_
        refine lv_iconst (v := nI 3) hx hb dX9_row_40 (by decide) ?_
        refine cSi (As := [.int iw, .int (nI 0), .int (nI 3)]) (rest := []) (m_X9_in l iw (nI 0) (nI 3)) S k_X9_in gX9_row_X9_in ⟨Nat.le_of_ble_eq_true rfl, Nat.le_of_ble_eq_true rfl⟩ rfl hl.1 (Nat.le_of_ble_eq_true rfl) rfl dX9_row_41 ⟨Nat.le_of_ble_eq_true rfl, Nat.le_of_ble_eq_true rfl⟩ (fun r hr => ?_)
        subst hr
        refine lv_if_ne (tgt := 53) hx hb dX9_row_44 (by decide) (fun c_44 => ?_) (fun c_44 => ?_)
        · have n_44 := bI_nz.mp c_44
          refine lv_aload_n hx hb dX9_row_53 rfl (lv_at hl 0 rfl) ?_
          refine va_get (D := Γ.1) (ci := 9) (v := .ref (a 1)) (C := RX9) (T := TX9) (N := 11) hx hb hts (by decide +kernel) hown hK hP 0 rfl rfl 1 (by decide) (hts (.fieldLink RX9 7 "RowVeilsModel" "s" "[I") (by decide +kernel)) (fun _ h9 => h9) rfl dX9_row_54 ?_
          refine lv_iconst (v := nI 0) hx hb dX9_row_57 (by decide) ?_
          refine va_iald hx hb hK hP 1 0 rfl rfl (vp_in_nI (by omega) (by omega)) dX9_row_58 ?_
          refine asi (z := nI (σ 0)) ((congrArg _ (nI_clamp (by omega))).trans (hM _ (by omega))) ?_
          refine lv_bipush (v := nI 16) hx hb dX9_row_59 (by decide) ?_
          refine lv_icmp_ne (tgt := 70) hx hb dX9_row_61 (by decide) (fun c_61 => ?_) (fun c_61 => ?_)
          · have n_61 := (not_congr (nI_eq (a := (σ 0)) (b := 16) (by omega) (by omega))).mp c_61
            refine lv_aload_n hx hb dX9_row_70 rfl (lv_at hl 0 rfl) ?_
            obtain ⟨o, ho, rfl⟩ := in_lt (by decide) n_9
            obtain ⟨pl, hpl, rfl⟩ := in_lt (by decide) n_18
            obtain ⟨vv, hv, rfl⟩ := in_lt (by decide) n_34
            obtain ⟨ww, hw, rfl⟩ := in_lt (by decide) n_44
            refine cWv (As := []) (rest := []) (wr := []) (m_X9_saves l Γ _ a (va_up v 0 (nI 0)) hs g σ sc ss h1 hc6 hM hI hSR) S k_X9_saves gX9_row_X9_saves rfl ⟨Nat.le_of_ble_eq_true rfl, Nat.le_of_ble_eq_true rfl⟩ hK hP hD hS hA [0, 1, 2, 3, 4] [] rfl rfl (by decide) (by decide) (by decide) 0 (ci := 9) rfl rfl rfl rfl hl.1 (Nat.le_of_ble_eq_true rfl) rfl dX9_row_71 ⟨Nat.le_of_ble_eq_true rfl, Nat.le_of_ble_eq_true rfl⟩ (fun u H locs hr hP hD hS => ?_)
            obtain ⟨sv1, e_sv1⟩ : ∃ x, x = u := ⟨u, rfl⟩
            subst e_sv1
            have hP : gP Γ [(a 0, .inr (9, [.int (nI 0), .ref (a 1), .ref (a 2), .int (nI (svC sc)), .ref (a 3), .int (v 2), .int (v 3), .int (v 4), .ref (a 4), .int (v 5), .long hs])), (a 1, .inl (Γ.2.1, 130, .inl (g 0))), (a 2, .inl (Γ.2.1, 780, .inl sv1)), (a 3, .inl (Γ.2.1, 60, .inl (g 2))), (a 4, .inl (Γ.2.1, 88, .inl (g 3)))] H := hP
            have hD : va_D A [(a 0, .inr (9, [.int (nI 0), .ref (a 1), .ref (a 2), .int (nI (svC sc)), .ref (a 3), .int (v 2), .int (v 3), .int (v 4), .ref (a 4), .int (v 5), .long hs])), (a 1, .inl (Γ.2.1, 130, .inl (g 0))), (a 2, .inl (Γ.2.1, 780, .inl sv1)), (a 3, .inl (Γ.2.1, 60, .inl (g 2))), (a 4, .inl (Γ.2.1, 88, .inl (g 3)))] := hD
            have hSV := hr
            refine lv_aload_n hx hb dX9_row_74 rfl (lv_at hl 0 rfl) ?_
            refine lv_iload_n hx hb dX9_row_75 rfl (lv_at hl 1 rfl) ?_
            refine lv_iload_n hx hb dX9_row_76 rfl (lv_at hl 2 rfl) ?_
            refine lv_iload_n hx hb dX9_row_77 rfl (lv_at hl 3 rfl) ?_
            refine lv_iload hx hb dX9_row_78 (lv_at hl 4 rfl) ?_
            refine cWv (As := [.int (nI o), .int (nI pl), .int (nI vv), .int (nI ww)]) (rest := []) (wr := []) (m_X9_adds l Γ _ a (va_up (va_up v 0 (nI 0)) 1 (nI (svC sc))) hs (va_up g 1 sv1) σ hM hI o pl vv ww (by omega)) S k_X9_adds gX9_row_X9_adds rfl ⟨Nat.le_of_ble_eq_true rfl, Nat.le_of_ble_eq_true rfl⟩ hK hP hD hS hA [0, 1, 2, 3, 4] [] rfl rfl (by decide) (by decide) (by decide) 0 (ci := 9) rfl rfl rfl rfl hl.1 (Nat.le_of_ble_eq_true rfl) rfl dX9_row_80 ⟨Nat.le_of_ble_eq_true rfl, Nat.le_of_ble_eq_true rfl⟩ (fun u H locs hr hP hD hS => ?_)
            obtain ⟨ad1, e_ad1⟩ : ∃ x, x = u := ⟨u, rfl⟩
            subst e_ad1
            have hP : gP Γ [(a 0, .inr (9, [.int (nI 0), .ref (a 1), .ref (a 2), .int (nI (svC sc)), .ref (a 3), .int (v 2), .int (v 3), .int (v 4), .ref (a 4), .int (v 5), .long hs])), (a 1, .inl (Γ.2.1, 130, .inl ad1)), (a 2, .inl (Γ.2.1, 780, .inl sv1)), (a 3, .inl (Γ.2.1, 60, .inl (g 2))), (a 4, .inl (Γ.2.1, 88, .inl (g 3)))] H := hP
            have hD : va_D A [(a 0, .inr (9, [.int (nI 0), .ref (a 1), .ref (a 2), .int (nI (svC sc)), .ref (a 3), .int (v 2), .int (v 3), .int (v 4), .ref (a 4), .int (v 5), .long hs])), (a 1, .inl (Γ.2.1, 130, .inl ad1)), (a 2, .inl (Γ.2.1, 780, .inl sv1)), (a 3, .inl (Γ.2.1, 60, .inl (g 2))), (a 4, .inl (Γ.2.1, 88, .inl (g 3)))] := hD
            have hAD := hr
            refine lv_aload_n hx hb dX9_row_83 rfl (lv_at hl 0 rfl) ?_
            refine va_get (D := Γ.1) (ci := 9) (v := .ref (a 1)) (C := RX9) (T := TX9) (N := 11) hx hb hts (by decide +kernel) hown hK hP 0 rfl rfl 1 (by decide) (hts (.fieldLink RX9 7 "RowVeilsModel" "s" "[I") (by decide +kernel)) (fun _ h9 => h9) rfl dX9_row_84 ?_
            refine lv_iconst (v := nI 0) hx hb dX9_row_87 (by decide) ?_
            refine va_iald hx hb hK hP 1 0 rfl rfl (vp_in_nI (by omega) (by omega)) dX9_row_88 ?_
            refine asi (z := nI (σ 0 + 1)) ((congrArg _ (nI_clamp (by omega))).trans (hAD 0 (by decide))) ?_
            refine lv_iconst (v := nI 1) hx hb dX9_row_89 (by decide) ?_
            refine lv_isub hx hb dX9_row_90 ?_
            refine asi (z := nI (σ 0)) (pk_sub (by omega)) ?_
            exact W.iret (v := nI (σ 0)) hx hb hrt (fun t9 ht9 hW9 => ⟨⟨_, (va_up (va_up v 0 (nI 0)) 1 (nI (svC sc)), hs, va_up (va_up g 0 ad1) 1 sv1), rfl, MO.ok (by unfold roC; rw [n_9, n_18, n_34, n_44, if_neg n_61]; rfl) rfl rfl (by rw [nI_clamp (by omega), nI_clamp (by omega), nI_clamp (by omega), nI_clamp (by omega)]; exact (MR.sv (hAD) (row_I hI (by omega) (by omega) (by omega) (by omega) (by omega)) rfl h2 hBR hSV)), wd_end hK hP hD [0, 1, 2, 3, 4] (by decide) rfl t9 ht9 hW9⟩, hS.F ht9⟩) hS.2.2 dX9_row_91 hlk
          · have n_61 := (nI_eq (a := (σ 0)) (b := 16) (by omega) (by omega)).mp c_61
            refine lv_aload_n hx hb dX9_row_64 rfl (lv_at hl 0 rfl) ?_
            refine lv_iconst (v := nI 3) hx hb dX9_row_65 (by decide) ?_
            refine cWi (As := [.int (nI 3)]) (rest := []) (wr := []) (m_X9_fails l Γ _ a (va_up v 0 (nI 0)) hs g (nI 3)) S k_X9_fails gX9_row_X9_fails rfl ⟨Nat.le_of_ble_eq_true rfl, Nat.le_of_ble_eq_true rfl⟩ hK hP hD hS hA [0, 1, 2, 3, 4] [] rfl rfl (by decide) (by decide) (by decide) 0 (ci := 9) rfl rfl rfl rfl hl.1 (Nat.le_of_ble_eq_true rfl) rfl dX9_row_66 ⟨Nat.le_of_ble_eq_true rfl, Nat.le_of_ble_eq_true rfl⟩ (fun r u H locs hr hP hD hS => ?_)
            have hP : gP Γ [(a 0, .inr (9, [.int (nI 3), .ref (a 1), .ref (a 2), .int (v 1), .ref (a 3), .int (v 2), .int (v 3), .int (v 4), .ref (a 4), .int (v 5), .long hs])), (a 1, .inl (Γ.2.1, 130, .inl (g 0))), (a 2, .inl (Γ.2.1, 780, .inl (g 1))), (a 3, .inl (Γ.2.1, 60, .inl (g 2))), (a 4, .inl (Γ.2.1, 88, .inl (g 3)))] H := hP
            have hD : va_D A [(a 0, .inr (9, [.int (nI 3), .ref (a 1), .ref (a 2), .int (v 1), .ref (a 3), .int (v 2), .int (v 3), .int (v 4), .ref (a 4), .int (v 5), .long hs])), (a 1, .inl (Γ.2.1, 130, .inl (g 0))), (a 2, .inl (Γ.2.1, 780, .inl (g 1))), (a 3, .inl (Γ.2.1, 60, .inl (g 2))), (a 4, .inl (Γ.2.1, 88, .inl (g 3)))] := hD
            subst hr
            exact W.iret (v := nI 0) hx hb hrt (fun t9 ht9 hW9 => ⟨⟨_, (va_up v 0 (nI 3), hs, g), rfl, MO.bad (k := 2) (by unfold roC; rw [n_9, n_18, n_34, n_44, if_pos n_61]; rfl) rfl rfl (hX.th rfl rfl), wd_end hK hP hD [0, 1, 2, 3, 4] (by decide) rfl t9 ht9 hW9⟩, hS.F ht9⟩) hS.2.2 dX9_row_69 hlk
        · have n_44 := bI_z.mp c_44
          refine lv_aload_n hx hb dX9_row_47 rfl (lv_at hl 0 rfl) ?_
          refine lv_iconst (v := nI 2) hx hb dX9_row_48 (by decide) ?_
          refine cWi (As := [.int (nI 2)]) (rest := []) (wr := []) (m_X9_fails l Γ _ a (va_up v 0 (nI 0)) hs g (nI 2)) S k_X9_fails gX9_row_X9_fails rfl ⟨Nat.le_of_ble_eq_true rfl, Nat.le_of_ble_eq_true rfl⟩ hK hP hD hS hA [0, 1, 2, 3, 4] [] rfl rfl (by decide) (by decide) (by decide) 0 (ci := 9) rfl rfl rfl rfl hl.1 (Nat.le_of_ble_eq_true rfl) rfl dX9_row_49 ⟨Nat.le_of_ble_eq_true rfl, Nat.le_of_ble_eq_true rfl⟩ (fun r u H locs hr hP hD hS => ?_)
          have hP : gP Γ [(a 0, .inr (9, [.int (nI 2), .ref (a 1), .ref (a 2), .int (v 1), .ref (a 3), .int (v 2), .int (v 3), .int (v 4), .ref (a 4), .int (v 5), .long hs])), (a 1, .inl (Γ.2.1, 130, .inl (g 0))), (a 2, .inl (Γ.2.1, 780, .inl (g 1))), (a 3, .inl (Γ.2.1, 60, .inl (g 2))), (a 4, .inl (Γ.2.1, 88, .inl (g 3)))] H := hP
          have hD : va_D A [(a 0, .inr (9, [.int (nI 2), .ref (a 1), .ref (a 2), .int (v 1), .ref (a 3), .int (v 2), .int (v 3), .int (v 4), .ref (a 4), .int (v 5), .long hs])), (a 1, .inl (Γ.2.1, 130, .inl (g 0))), (a 2, .inl (Γ.2.1, 780, .inl (g 1))), (a 3, .inl (Γ.2.1, 60, .inl (g 2))), (a 4, .inl (Γ.2.1, 88, .inl (g 3)))] := hD
          subst hr
          exact W.iret (v := nI 0) hx hb hrt (fun t9 ht9 hW9 => ⟨⟨_, (va_up v 0 (nI 2), hs, g), rfl, MO.bad (k := 1) (by unfold roC; first | (rw [n_9, n_18, n_34]; rfl) | (rw [n_9, n_18, n_34, n_44]; rfl)) rfl rfl (hX.th rfl rfl), wd_end hK hP hD [0, 1, 2, 3, 4] (by decide) rfl t9 ht9 hW9⟩, hS.F ht9⟩) hS.2.2 dX9_row_52 hlk
    · have n_18 := bI_z.mp c_18
      refine lv_aload_n hx hb dX9_row_21 rfl (lv_at hl 0 rfl) ?_
      refine lv_iconst (v := nI 1) hx hb dX9_row_22 (by decide) ?_
      refine cWi (As := [.int (nI 1)]) (rest := []) (wr := []) (m_X9_fails l Γ _ a (va_up v 0 (nI 0)) hs g (nI 1)) S k_X9_fails gX9_row_X9_fails rfl ⟨Nat.le_of_ble_eq_true rfl, Nat.le_of_ble_eq_true rfl⟩ hK hP hD hS hA [0, 1, 2, 3, 4] [] rfl rfl (by decide) (by decide) (by decide) 0 (ci := 9) rfl rfl rfl rfl hl.1 (Nat.le_of_ble_eq_true rfl) rfl dX9_row_23 ⟨Nat.le_of_ble_eq_true rfl, Nat.le_of_ble_eq_true rfl⟩ (fun r u H locs hr hP hD hS => ?_)
      have hP : gP Γ [(a 0, .inr (9, [.int (nI 1), .ref (a 1), .ref (a 2), .int (v 1), .ref (a 3), .int (v 2), .int (v 3), .int (v 4), .ref (a 4), .int (v 5), .long hs])), (a 1, .inl (Γ.2.1, 130, .inl (g 0))), (a 2, .inl (Γ.2.1, 780, .inl (g 1))), (a 3, .inl (Γ.2.1, 60, .inl (g 2))), (a 4, .inl (Γ.2.1, 88, .inl (g 3)))] H := hP
      have hD : va_D A [(a 0, .inr (9, [.int (nI 1), .ref (a 1), .ref (a 2), .int (v 1), .ref (a 3), .int (v 2), .int (v 3), .int (v 4), .ref (a 4), .int (v 5), .long hs])), (a 1, .inl (Γ.2.1, 130, .inl (g 0))), (a 2, .inl (Γ.2.1, 780, .inl (g 1))), (a 3, .inl (Γ.2.1, 60, .inl (g 2))), (a 4, .inl (Γ.2.1, 88, .inl (g 3)))] := hD
      subst hr
      exact W.iret (v := nI 0) hx hb hrt (fun t9 ht9 hW9 => ⟨⟨_, (va_up v 0 (nI 1), hs, g), rfl, MO.bad (k := 0) (by unfold roC; first | (rw [n_9]; rfl) | (rw [n_9, n_18]; rfl)) rfl rfl (hX.th rfl rfl), wd_end hK hP hD [0, 1, 2, 3, 4] (by decide) rfl t9 ht9 hW9⟩, hS.F ht9⟩) hS.2.2 dX9_row_26 hlk

abbrev rm_X9_change : Room := { frames := 2, cells := 0, slots := 0, locals := 43 }
theorem k_X9_change : Cal yX9_change wsX9_change rm_X9_change cX9_change 4 (some .int) 2 0 0 := ⟨⟨_, rfl⟩, rfl, rfl, by decide +kernel⟩
set_option maxHeartbeats 4000000 in
set_option maxRecDepth 100000 in
theorem m_X9_change (l : Launch) (Γ : Gm) (sz : Nat) (a : Nat → Nat) (v : Nat → Int32) (hs : Int64) (g : Nat → Nat → Int32) (σ : Nat → Nat) (sc : Nat) (ss : Nat → Nat → Nat) (nb : Nat) (bb : Nat → Nat) (hX : MR σ sc ss nb bb v g) (ix iv : Int32) : MWi (S := WtM) l yX9_change wsX9_change rm_X9_change Γ sz (wMd Γ a v hs g) [.ref (a 0), .int ix, .int iv] (fun r u => MO (chC σ ix iv) r (nI (oR σ ix.toNatClampNeg 2)) (MR (chgS σ ix.toNatClampNeg iv.toNatClampNeg) (svC sc) (svS sc ss σ) nb bb u.1 u.2.2) (MR σ sc ss nb bb u.1 u.2.2) (u.1 0)) (fun u => (wMd Γ a u.1 u.2.1 u.2.2)) 0 0 := by
  refine mW (cc := cX9_change) (maxL := 4) (ret := (some .int)) (own := RX9) (by decide) rfl rfl (Nat.le_of_ble_eq_true rfl) ?_
  intro p e s m args below meth c S hrt hlk hin hsz hK hP hD hA hS ls hl
  subst hsz
  generalize hAe : va_A (wMd Γ a v hs g) s.heap.size = A at hD hA hS ⊢
  obtain ⟨hx, hb, hml, hown, hts⟩ := id S
  obtain ⟨hM, hI, hc6, h1, h2, hBR, hSR⟩ := id hX
  have hn := hI.n
  have hl : lv_has ls 4 [(0, .ref (a 0)), (1, .int ix), (2, .int iv)] := hl
  have hH : s.heap = s.heap := rfl
  refine lv_aload_n hx hb dX9_change_0 rfl (lv_at hl 0 rfl) ?_
  refine lv_iconst (v := nI 0) hx hb dX9_change_1 (by decide) ?_
  refine va_put (D := Γ.1) (ci := 9) (v := .int (nI 0)) (ty := .int) (C := RX9) (T := TX9) (N := 11) hx hb hts (by decide +kernel) tyX9 tyX9_ok nmX9 hown hK hP hD hS 0 rfl rfl 0 (by decide) (hts (.fieldLink RX9 22 "RowVeilsModel" "thrown" "I") (by decide +kernel)) (fun _ h9 => h9) rfl (by decide +kernel) rfl rfl (Nat.le_of_ble_eq_true rfl) dX9_change_2 (fun H locs hP hD hS => ?_)
  have hP : gP Γ [(a 0, .inr (9, [.int (nI 0), .ref (a 1), .ref (a 2), .int (v 1), .ref (a 3), .int (v 2), .int (v 3), .int (v 4), .ref (a 4), .int (v 5), .long hs])), (a 1, .inl (Γ.2.1, 130, .inl (g 0))), (a 2, .inl (Γ.2.1, 780, .inl (g 1))), (a 3, .inl (Γ.2.1, 60, .inl (g 2))), (a 4, .inl (Γ.2.1, 88, .inl (g 3)))] H := hP
  have hD : va_D A [(a 0, .inr (9, [.int (nI 0), .ref (a 1), .ref (a 2), .int (v 1), .ref (a 3), .int (v 2), .int (v 3), .int (v 4), .ref (a 4), .int (v 5), .long hs])), (a 1, .inl (Γ.2.1, 130, .inl (g 0))), (a 2, .inl (Γ.2.1, 780, .inl (g 1))), (a 3, .inl (Γ.2.1, 60, .inl (g 2))), (a 4, .inl (Γ.2.1, 88, .inl (g 3)))] := hD
  refine lv_aload_n hx hb dX9_change_5 rfl (lv_at hl 0 rfl) ?_
  refine lv_iload_n hx hb dX9_change_6 rfl (lv_at hl 1 rfl) ?_
  refine cRi (As := [.int ix]) (rest := []) (m_X9_isRow l Γ a (va_up v 0 (nI 0)) hs g σ hM hI ix) S k_X9_isRow gX9_change_X9_isRow rfl ⟨Nat.le_of_ble_eq_true rfl, Nat.le_of_ble_eq_true rfl⟩ hK hP [0, 1, 2, 3, 4] rfl 0 (ci := 9) rfl rfl rfl rfl hl.1 (Nat.le_of_ble_eq_true rfl) rfl dX9_change_7 ⟨Nat.le_of_ble_eq_true rfl, Nat.le_of_ble_eq_true rfl⟩ (fun r hr => ?_)
  subst hr
  refine lv_if_ne (tgt := 19) hx hb dX9_change_10 (by decide) (fun c_10 => ?_) (fun c_10 => ?_)
  · have n_10 := bI_nz.mp c_10
    refine lv_iload_n hx hb dX9_change_19 rfl (lv_at hl 2 rfl) ?_
    refine lv_iconst (v := nI 0) hx hb dX9_change_20 (by decide) ?_
    refine lv_bipush (v := nI 99) hx hb dX9_change_21 (by decide) ?_
    refine cSi (As := [.int iv, .int (nI 0), .int (nI 99)]) (rest := []) (m_X9_in l iv (nI 0) (nI 99)) S k_X9_in gX9_change_X9_in ⟨Nat.le_of_ble_eq_true rfl, Nat.le_of_ble_eq_true rfl⟩ rfl hl.1 (Nat.le_of_ble_eq_true rfl) rfl dX9_change_23 ⟨Nat.le_of_ble_eq_true rfl, Nat.le_of_ble_eq_true rfl⟩ (fun r hr => ?_)
    subst hr
    refine lv_if_ne (tgt := 35) hx hb dX9_change_26 (by decide) (fun c_26 => ?_) (fun c_26 => ?_)
    · have n_26 := bI_nz.mp c_26
      obtain ⟨q, hq0, rfl⟩ := in_row hI.n n_10
      obtain ⟨w, hw, rfl⟩ := in_lt (by decide) n_26
      refine lv_aload_n hx hb dX9_change_35 rfl (lv_at hl 0 rfl) ?_
      refine cWv (As := []) (rest := []) (wr := []) (m_X9_saves l Γ _ a (va_up v 0 (nI 0)) hs g σ sc ss h1 hc6 hM hI hSR) S k_X9_saves gX9_change_X9_saves rfl ⟨Nat.le_of_ble_eq_true rfl, Nat.le_of_ble_eq_true rfl⟩ hK hP hD hS hA [0, 1, 2, 3, 4] [] rfl rfl (by decide) (by decide) (by decide) 0 (ci := 9) rfl rfl rfl rfl hl.1 (Nat.le_of_ble_eq_true rfl) rfl dX9_change_36 ⟨Nat.le_of_ble_eq_true rfl, Nat.le_of_ble_eq_true rfl⟩ (fun u H locs hr hP hD hS => ?_)
      obtain ⟨sv1, e_sv1⟩ : ∃ x, x = u := ⟨u, rfl⟩
      subst e_sv1
      have hP : gP Γ [(a 0, .inr (9, [.int (nI 0), .ref (a 1), .ref (a 2), .int (nI (svC sc)), .ref (a 3), .int (v 2), .int (v 3), .int (v 4), .ref (a 4), .int (v 5), .long hs])), (a 1, .inl (Γ.2.1, 130, .inl (g 0))), (a 2, .inl (Γ.2.1, 780, .inl sv1)), (a 3, .inl (Γ.2.1, 60, .inl (g 2))), (a 4, .inl (Γ.2.1, 88, .inl (g 3)))] H := hP
      have hD : va_D A [(a 0, .inr (9, [.int (nI 0), .ref (a 1), .ref (a 2), .int (nI (svC sc)), .ref (a 3), .int (v 2), .int (v 3), .int (v 4), .ref (a 4), .int (v 5), .long hs])), (a 1, .inl (Γ.2.1, 130, .inl (g 0))), (a 2, .inl (Γ.2.1, 780, .inl sv1)), (a 3, .inl (Γ.2.1, 60, .inl (g 2))), (a 4, .inl (Γ.2.1, 88, .inl (g 3)))] := hD
      have hSV := hr
      refine lv_aload_n hx hb dX9_change_39 rfl (lv_at hl 0 rfl) ?_
      refine lv_iload_n hx hb dX9_change_40 rfl (lv_at hl 1 rfl) ?_
      refine lv_iconst (v := nI 2) hx hb dX9_change_41 (by decide) ?_
      refine cRi (As := [.int (nI q), .int (nI 2)]) (rest := []) (m_X9_of l Γ a (va_up (va_up v 0 (nI 0)) 1 (nI (svC sc))) hs (va_up g 1 sv1) σ hM hI q 2 (by omega)) S k_X9_of gX9_change_X9_of rfl ⟨Nat.le_of_ble_eq_true rfl, Nat.le_of_ble_eq_true rfl⟩ hK hP [0, 1, 2, 3, 4] rfl 0 (ci := 9) rfl rfl rfl rfl hl.1 (Nat.le_of_ble_eq_true rfl) rfl dX9_change_42 ⟨Nat.le_of_ble_eq_true rfl, Nat.le_of_ble_eq_true rfl⟩ (fun r hr => ?_)
      subst hr
      refine lv_istore_n (lv' := [(3, .int (nI (oR σ q 2))), (0, .ref (a 0)), (1, .int (nI q)), (2, .int (nI w))]) hx hb dX9_change_45 rfl hl (by decide) rfl (fun ls hl => ?_)
      refine lv_aload_n hx hb dX9_change_46 rfl (lv_at hl 1 rfl) ?_
      refine va_get (D := Γ.1) (ci := 9) (v := .ref (a 1)) (C := RX9) (T := TX9) (N := 11) hx hb hts (by decide +kernel) hown hK hP 0 rfl rfl 1 (by decide) (hts (.fieldLink RX9 7 "RowVeilsModel" "s" "[I") (by decide +kernel)) (fun _ h9 => h9) rfl dX9_change_47 ?_
      refine lv_bipush (v := nI 6) hx hb dX9_change_50 (by decide) ?_
      refine lv_iconst (v := nI 4) hx hb dX9_change_52 (by decide) ?_
      refine lv_iload_n hx hb dX9_change_53 rfl (lv_at hl 2 rfl) ?_
      refine lv_imul hx hb dX9_change_54 ?_
      refine asi (z := nI (4 * q)) (pk_mul _ _) ?_
      refine lv_iadd hx hb dX9_change_55 ?_
      refine asi (z := nI (6 + (4 * q))) (nI_add _ _) ?_
      refine lv_iconst (v := nI 2) hx hb dX9_change_56 (by decide) ?_
      refine lv_iadd hx hb dX9_change_57 ?_
      refine asi (z := nI ((6 + (4 * q)) + 2)) (nI_add _ _) ?_
      refine lv_iload_n hx hb dX9_change_58 rfl (lv_at hl 3 rfl) ?_
      refine va_iast hx hb hK hP hD hS 1 0 rfl rfl (vp_in_nI (by omega) (by omega)) dX9_change_59 (fun H locs hP hD hS => ?_)
      have ec : (nI ((6 + (4 * q)) + 2)).toNatClampNeg = ((6 + (4 * q)) + 2) := nI_clamp (by omega)
      rw [ec] at hP hD
      clear ec
      have hP : gP Γ [(a 0, .inr (9, [.int (nI 0), .ref (a 1), .ref (a 2), .int (nI (svC sc)), .ref (a 3), .int (v 2), .int (v 3), .int (v 4), .ref (a 4), .int (v 5), .long hs])), (a 1, .inl (Γ.2.1, 130, .inl (upd (g 0) ((6 + (4 * q)) + 2) (nI w)))), (a 2, .inl (Γ.2.1, 780, .inl sv1)), (a 3, .inl (Γ.2.1, 60, .inl (g 2))), (a 4, .inl (Γ.2.1, 88, .inl (g 3)))] H := hP
      have hD : va_D A [(a 0, .inr (9, [.int (nI 0), .ref (a 1), .ref (a 2), .int (nI (svC sc)), .ref (a 3), .int (v 2), .int (v 3), .int (v 4), .ref (a 4), .int (v 5), .long hs])), (a 1, .inl (Γ.2.1, 130, .inl (upd (g 0) ((6 + (4 * q)) + 2) (nI w)))), (a 2, .inl (Γ.2.1, 780, .inl sv1)), (a 3, .inl (Γ.2.1, 60, .inl (g 2))), (a 4, .inl (Γ.2.1, 88, .inl (g 3)))] := hD
      refine lv_iload_n hx hb dX9_change_60 rfl (lv_at hl 0 rfl) ?_
      exact W.iret (v := nI (oR σ q 2)) hx hb hrt (fun t9 ht9 hW9 => ⟨⟨_, (va_up (va_up v 0 (nI 0)) 1 (nI (svC sc)), hs, va_up (va_up g 0 (upd (g 0) ((6 + (4 * q)) + 2) (nI w))) 1 sv1), rfl, MO.ok (by unfold chC; rw [n_10, n_26]; rfl) rfl (by rw [nI_clamp (by omega)]) (by rw [nI_clamp (by omega), nI_clamp (by omega)]; exact (MR.sv (hM.up) (chg_I hI hq0 (by omega)) rfl h2 hBR hSV)), wd_end hK hP hD [0, 1, 2, 3, 4] (by decide) rfl t9 ht9 hW9⟩, hS.F ht9⟩) hS.2.2 dX9_change_61 hlk
    · have n_26 := bI_z.mp c_26
      refine lv_aload_n hx hb dX9_change_29 rfl (lv_at hl 0 rfl) ?_
      refine lv_iconst (v := nI 2) hx hb dX9_change_30 (by decide) ?_
      refine cWi (As := [.int (nI 2)]) (rest := []) (wr := []) (m_X9_fails l Γ _ a (va_up v 0 (nI 0)) hs g (nI 2)) S k_X9_fails gX9_change_X9_fails rfl ⟨Nat.le_of_ble_eq_true rfl, Nat.le_of_ble_eq_true rfl⟩ hK hP hD hS hA [0, 1, 2, 3, 4] [] rfl rfl (by decide) (by decide) (by decide) 0 (ci := 9) rfl rfl rfl rfl hl.1 (Nat.le_of_ble_eq_true rfl) rfl dX9_change_31 ⟨Nat.le_of_ble_eq_true rfl, Nat.le_of_ble_eq_true rfl⟩ (fun r u H locs hr hP hD hS => ?_)
      have hP : gP Γ [(a 0, .inr (9, [.int (nI 2), .ref (a 1), .ref (a 2), .int (v 1), .ref (a 3), .int (v 2), .int (v 3), .int (v 4), .ref (a 4), .int (v 5), .long hs])), (a 1, .inl (Γ.2.1, 130, .inl (g 0))), (a 2, .inl (Γ.2.1, 780, .inl (g 1))), (a 3, .inl (Γ.2.1, 60, .inl (g 2))), (a 4, .inl (Γ.2.1, 88, .inl (g 3)))] H := hP
      have hD : va_D A [(a 0, .inr (9, [.int (nI 2), .ref (a 1), .ref (a 2), .int (v 1), .ref (a 3), .int (v 2), .int (v 3), .int (v 4), .ref (a 4), .int (v 5), .long hs])), (a 1, .inl (Γ.2.1, 130, .inl (g 0))), (a 2, .inl (Γ.2.1, 780, .inl (g 1))), (a 3, .inl (Γ.2.1, 60, .inl (g 2))), (a 4, .inl (Γ.2.1, 88, .inl (g 3)))] := hD
      subst hr
      exact W.iret (v := nI 0) hx hb hrt (fun t9 ht9 hW9 => ⟨⟨_, (va_up v 0 (nI 2), hs, g), rfl, MO.bad (k := 1) (by unfold chC; first | (rw [n_10, n_26]; rfl)) rfl rfl (hX.th rfl rfl), wd_end hK hP hD [0, 1, 2, 3, 4] (by decide) rfl t9 ht9 hW9⟩, hS.F ht9⟩) hS.2.2 dX9_change_34 hlk
  · have n_10 := bI_z.mp c_10
    refine lv_aload_n hx hb dX9_change_13 rfl (lv_at hl 0 rfl) ?_
    refine lv_iconst (v := nI 1) hx hb dX9_change_14 (by decide) ?_
    refine cWi (As := [.int (nI 1)]) (rest := []) (wr := []) (m_X9_fails l Γ _ a (va_up v 0 (nI 0)) hs g (nI 1)) S k_X9_fails gX9_change_X9_fails rfl ⟨Nat.le_of_ble_eq_true rfl, Nat.le_of_ble_eq_true rfl⟩ hK hP hD hS hA [0, 1, 2, 3, 4] [] rfl rfl (by decide) (by decide) (by decide) 0 (ci := 9) rfl rfl rfl rfl hl.1 (Nat.le_of_ble_eq_true rfl) rfl dX9_change_15 ⟨Nat.le_of_ble_eq_true rfl, Nat.le_of_ble_eq_true rfl⟩ (fun r u H locs hr hP hD hS => ?_)
    have hP : gP Γ [(a 0, .inr (9, [.int (nI 1), .ref (a 1), .ref (a 2), .int (v 1), .ref (a 3), .int (v 2), .int (v 3), .int (v 4), .ref (a 4), .int (v 5), .long hs])), (a 1, .inl (Γ.2.1, 130, .inl (g 0))), (a 2, .inl (Γ.2.1, 780, .inl (g 1))), (a 3, .inl (Γ.2.1, 60, .inl (g 2))), (a 4, .inl (Γ.2.1, 88, .inl (g 3)))] H := hP
    have hD : va_D A [(a 0, .inr (9, [.int (nI 1), .ref (a 1), .ref (a 2), .int (v 1), .ref (a 3), .int (v 2), .int (v 3), .int (v 4), .ref (a 4), .int (v 5), .long hs])), (a 1, .inl (Γ.2.1, 130, .inl (g 0))), (a 2, .inl (Γ.2.1, 780, .inl (g 1))), (a 3, .inl (Γ.2.1, 60, .inl (g 2))), (a 4, .inl (Γ.2.1, 88, .inl (g 3)))] := hD
    subst hr
    exact W.iret (v := nI 0) hx hb hrt (fun t9 ht9 hW9 => ⟨⟨_, (va_up v 0 (nI 1), hs, g), rfl, MO.bad (k := 0) (by unfold chC; first | (rw [n_10]; rfl)) rfl rfl (hX.th rfl rfl), wd_end hK hP hD [0, 1, 2, 3, 4] (by decide) rfl t9 ht9 hW9⟩, hS.F ht9⟩) hS.2.2 dX9_change_18 hlk

abbrev rm_X9_person : Room := { frames := 2, cells := 0, slots := 0, locals := 42 }
theorem k_X9_person : Cal yX9_person wsX9_person rm_X9_person cX9_person 5 (some .int) 3 0 0 := ⟨⟨_, rfl⟩, rfl, rfl, by decide +kernel⟩
set_option maxHeartbeats 4000000 in
set_option maxRecDepth 100000 in
theorem m_X9_person (l : Launch) (Γ : Gm) (sz : Nat) (a : Nat → Nat) (v : Nat → Int32) (hs : Int64) (g : Nat → Nat → Int32) (σ : Nat → Nat) (sc : Nat) (ss : Nat → Nat → Nat) (nb : Nat) (bb : Nat → Nat) (hX : MR σ sc ss nb bb v g) (ip ik ih : Int32) : MWi (S := WtM) l yX9_person wsX9_person rm_X9_person Γ sz (wMd Γ a v hs g) [.ref (a 0), .int ip, .int ik, .int ih] (fun r u => MO (psC ip ik ih) r (nI (oP σ ip.toNatClampNeg 0)) (MR (perS σ ip.toNatClampNeg ik.toNatClampNeg ih.toNatClampNeg) (svC sc) (svS sc ss σ) nb bb u.1 u.2.2) (MR σ sc ss nb bb u.1 u.2.2) (u.1 0)) (fun u => (wMd Γ a u.1 u.2.1 u.2.2)) 0 0 := by
  refine mW (cc := cX9_person) (maxL := 5) (ret := (some .int)) (own := RX9) (by decide) rfl rfl (Nat.le_of_ble_eq_true rfl) ?_
  intro p e s m args below meth c S hrt hlk hin hsz hK hP hD hA hS ls hl
  subst hsz
  generalize hAe : va_A (wMd Γ a v hs g) s.heap.size = A at hD hA hS ⊢
  obtain ⟨hx, hb, hml, hown, hts⟩ := id S
  obtain ⟨hM, hI, hc6, h1, h2, hBR, hSR⟩ := id hX
  have hl : lv_has ls 5 [(0, .ref (a 0)), (1, .int ip), (2, .int ik), (3, .int ih)] := hl
  have hH : s.heap = s.heap := rfl
  refine lv_aload_n hx hb dX9_person_0 rfl (lv_at hl 0 rfl) ?_
  refine lv_iconst (v := nI 0) hx hb dX9_person_1 (by decide) ?_
  refine va_put (D := Γ.1) (ci := 9) (v := .int (nI 0)) (ty := .int) (C := RX9) (T := TX9) (N := 11) hx hb hts (by decide +kernel) tyX9 tyX9_ok nmX9 hown hK hP hD hS 0 rfl rfl 0 (by decide) (hts (.fieldLink RX9 22 "RowVeilsModel" "thrown" "I") (by decide +kernel)) (fun _ h9 => h9) rfl (by decide +kernel) rfl rfl (Nat.le_of_ble_eq_true rfl) dX9_person_2 (fun H locs hP hD hS => ?_)
  have hP : gP Γ [(a 0, .inr (9, [.int (nI 0), .ref (a 1), .ref (a 2), .int (v 1), .ref (a 3), .int (v 2), .int (v 3), .int (v 4), .ref (a 4), .int (v 5), .long hs])), (a 1, .inl (Γ.2.1, 130, .inl (g 0))), (a 2, .inl (Γ.2.1, 780, .inl (g 1))), (a 3, .inl (Γ.2.1, 60, .inl (g 2))), (a 4, .inl (Γ.2.1, 88, .inl (g 3)))] H := hP
  have hD : va_D A [(a 0, .inr (9, [.int (nI 0), .ref (a 1), .ref (a 2), .int (v 1), .ref (a 3), .int (v 2), .int (v 3), .int (v 4), .ref (a 4), .int (v 5), .long hs])), (a 1, .inl (Γ.2.1, 130, .inl (g 0))), (a 2, .inl (Γ.2.1, 780, .inl (g 1))), (a 3, .inl (Γ.2.1, 60, .inl (g 2))), (a 4, .inl (Γ.2.1, 88, .inl (g 3)))] := hD
  refine lv_iload_n hx hb dX9_person_5 rfl (lv_at hl 1 rfl) ?_
  refine cSi (As := [.int ip]) (rest := []) (m_X9_isPerson l ip) S k_X9_isPerson gX9_person_X9_isPerson ⟨Nat.le_of_ble_eq_true rfl, Nat.le_of_ble_eq_true rfl⟩ rfl hl.1 (Nat.le_of_ble_eq_true rfl) rfl dX9_person_6 ⟨Nat.le_of_ble_eq_true rfl, Nat.le_of_ble_eq_true rfl⟩ (fun r hr => ?_)
  subst hr
  refine lv_if_eq (tgt := 21) hx hb dX9_person_9 (by decide) (fun c_9 => ?_) (fun c_9 => ?_)
  · have n_9 := bI_z.mp c_9
    refine lv_aload_n hx hb dX9_person_21 rfl (lv_at hl 0 rfl) ?_
    refine lv_iconst (v := nI 1) hx hb dX9_person_22 (by decide) ?_
    refine cWi (As := [.int (nI 1)]) (rest := []) (wr := []) (m_X9_fails l Γ _ a (va_up v 0 (nI 0)) hs g (nI 1)) S k_X9_fails gX9_person_X9_fails rfl ⟨Nat.le_of_ble_eq_true rfl, Nat.le_of_ble_eq_true rfl⟩ hK hP hD hS hA [0, 1, 2, 3, 4] [] rfl rfl (by decide) (by decide) (by decide) 0 (ci := 9) rfl rfl rfl rfl hl.1 (Nat.le_of_ble_eq_true rfl) rfl dX9_person_23 ⟨Nat.le_of_ble_eq_true rfl, Nat.le_of_ble_eq_true rfl⟩ (fun r u H locs hr hP hD hS => ?_)
    have hP : gP Γ [(a 0, .inr (9, [.int (nI 1), .ref (a 1), .ref (a 2), .int (v 1), .ref (a 3), .int (v 2), .int (v 3), .int (v 4), .ref (a 4), .int (v 5), .long hs])), (a 1, .inl (Γ.2.1, 130, .inl (g 0))), (a 2, .inl (Γ.2.1, 780, .inl (g 1))), (a 3, .inl (Γ.2.1, 60, .inl (g 2))), (a 4, .inl (Γ.2.1, 88, .inl (g 3)))] H := hP
    have hD : va_D A [(a 0, .inr (9, [.int (nI 1), .ref (a 1), .ref (a 2), .int (v 1), .ref (a 3), .int (v 2), .int (v 3), .int (v 4), .ref (a 4), .int (v 5), .long hs])), (a 1, .inl (Γ.2.1, 130, .inl (g 0))), (a 2, .inl (Γ.2.1, 780, .inl (g 1))), (a 3, .inl (Γ.2.1, 60, .inl (g 2))), (a 4, .inl (Γ.2.1, 88, .inl (g 3)))] := hD
    subst hr
    exact W.iret (v := nI 0) hx hb hrt (fun t9 ht9 hW9 => ⟨⟨_, (va_up v 0 (nI 1), hs, g), rfl, MO.bad (k := 0) (by unfold psC; first | (rw [n_9]; rfl) | (rw [n_9, n_18]; rfl)) rfl rfl (hX.th rfl rfl), wd_end hK hP hD [0, 1, 2, 3, 4] (by decide) rfl t9 ht9 hW9⟩, hS.F ht9⟩) hS.2.2 dX9_person_26 hlk
  · have n_9 := bI_nz.mp c_9
    refine lv_iload_n hx hb dX9_person_12 rfl (lv_at hl 3 rfl) ?_
    refine lv_iconst (v := nI 0) hx hb dX9_person_13 (by decide) ?_
    refine lv_iconst (v := nI 3) hx hb dX9_person_14 (by decide) ?_
    refine cSi (As := [.int ih, .int (nI 0), .int (nI 3)]) (rest := []) (m_X9_in l ih (nI 0) (nI 3)) S k_X9_in gX9_person_X9_in ⟨Nat.le_of_ble_eq_true rfl, Nat.le_of_ble_eq_true rfl⟩ rfl hl.1 (Nat.le_of_ble_eq_true rfl) rfl dX9_person_15 ⟨Nat.le_of_ble_eq_true rfl, Nat.le_of_ble_eq_true rfl⟩ (fun r hr => ?_)
    subst hr
    refine lv_if_ne (tgt := 27) hx hb dX9_person_18 (by decide) (fun c_18 => ?_) (fun c_18 => ?_)
    · have n_18 := bI_nz.mp c_18
      refine lv_iload_n hx hb dX9_person_27 rfl (lv_at hl 2 rfl) ?_
      refine lv_iconst (v := nI 0) hx hb dX9_person_28 (by decide) ?_
      refine lv_iconst (v := nI 3) hx hb dX9_person_29 (by decide) ?_
      refine cSi (As := [.int ik, .int (nI 0), .int (nI 3)]) (rest := []) (m_X9_in l ik (nI 0) (nI 3)) S k_X9_in gX9_person_X9_in ⟨Nat.le_of_ble_eq_true rfl, Nat.le_of_ble_eq_true rfl⟩ rfl hl.1 (Nat.le_of_ble_eq_true rfl) rfl dX9_person_30 ⟨Nat.le_of_ble_eq_true rfl, Nat.le_of_ble_eq_true rfl⟩ (fun r hr => ?_)
      subst hr
      refine lv_if_ne (tgt := 42) hx hb dX9_person_33 (by decide) (fun c_33 => ?_) (fun c_33 => ?_)
      · have n_33 := bI_nz.mp c_33
        obtain ⟨p0, h_p0, rfl⟩ := in_lt (by decide) n_9
        obtain ⟨h, h_h, rfl⟩ := in_lt (by decide) n_18
        obtain ⟨k, h_k, rfl⟩ := in_lt (by decide) n_33
        have hp : p0 < 5 := by omega
        refine lv_aload_n hx hb dX9_person_42 rfl (lv_at hl 0 rfl) ?_
        refine cWv (As := []) (rest := []) (wr := []) (m_X9_saves l Γ _ a (va_up v 0 (nI 0)) hs g σ sc ss h1 hc6 hM hI hSR) S k_X9_saves gX9_person_X9_saves rfl ⟨Nat.le_of_ble_eq_true rfl, Nat.le_of_ble_eq_true rfl⟩ hK hP hD hS hA [0, 1, 2, 3, 4] [] rfl rfl (by decide) (by decide) (by decide) 0 (ci := 9) rfl rfl rfl rfl hl.1 (Nat.le_of_ble_eq_true rfl) rfl dX9_person_43 ⟨Nat.le_of_ble_eq_true rfl, Nat.le_of_ble_eq_true rfl⟩ (fun u H locs hr hP hD hS => ?_)
        obtain ⟨sv1, e_sv1⟩ : ∃ x, x = u := ⟨u, rfl⟩
        subst e_sv1
        have hP : gP Γ [(a 0, .inr (9, [.int (nI 0), .ref (a 1), .ref (a 2), .int (nI (svC sc)), .ref (a 3), .int (v 2), .int (v 3), .int (v 4), .ref (a 4), .int (v 5), .long hs])), (a 1, .inl (Γ.2.1, 130, .inl (g 0))), (a 2, .inl (Γ.2.1, 780, .inl sv1)), (a 3, .inl (Γ.2.1, 60, .inl (g 2))), (a 4, .inl (Γ.2.1, 88, .inl (g 3)))] H := hP
        have hD : va_D A [(a 0, .inr (9, [.int (nI 0), .ref (a 1), .ref (a 2), .int (nI (svC sc)), .ref (a 3), .int (v 2), .int (v 3), .int (v 4), .ref (a 4), .int (v 5), .long hs])), (a 1, .inl (Γ.2.1, 130, .inl (g 0))), (a 2, .inl (Γ.2.1, 780, .inl sv1)), (a 3, .inl (Γ.2.1, 60, .inl (g 2))), (a 4, .inl (Γ.2.1, 88, .inl (g 3)))] := hD
        have hSV := hr
        refine lv_aload_n hx hb dX9_person_46 rfl (lv_at hl 0 rfl) ?_
        refine lv_iload_n hx hb dX9_person_47 rfl (lv_at hl 1 rfl) ?_
        refine lv_iconst (v := nI 0) hx hb dX9_person_48 (by decide) ?_
        refine cRi (As := [.int (nI p0), .int (nI 0)]) (rest := []) (m_X9_ofPerson l Γ a (va_up (va_up v 0 (nI 0)) 1 (nI (svC sc))) hs (va_up g 1 sv1) σ hM hI p0 0 (by omega)) S k_X9_ofPerson gX9_person_X9_ofPerson rfl ⟨Nat.le_of_ble_eq_true rfl, Nat.le_of_ble_eq_true rfl⟩ hK hP [0, 1, 2, 3, 4] rfl 0 (ci := 9) rfl rfl rfl rfl hl.1 (Nat.le_of_ble_eq_true rfl) rfl dX9_person_49 ⟨Nat.le_of_ble_eq_true rfl, Nat.le_of_ble_eq_true rfl⟩ (fun r hr => ?_)
        subst hr
        refine lv_istore (lv' := [(4, .int (nI (oP σ p0 0))), (0, .ref (a 0)), (1, .int (nI p0)), (2, .int (nI k)), (3, .int (nI h))]) hx hb dX9_person_52 hl (by decide) rfl (fun ls hl => ?_)
        refine lv_aload_n hx hb dX9_person_54 rfl (lv_at hl 1 rfl) ?_
        refine lv_iload_n hx hb dX9_person_55 rfl (lv_at hl 2 rfl) ?_
        refine lv_iconst (v := nI 0) hx hb dX9_person_56 (by decide) ?_
        refine lv_iload_n hx hb dX9_person_57 rfl (lv_at hl 3 rfl) ?_
        refine cWv (As := [.int (nI p0), .int (nI 0), .int (nI k)]) (rest := []) (wr := []) (m_X9_layPerson l Γ _ a (va_up (va_up v 0 (nI 0)) 1 (nI (svC sc))) hs (va_up g 1 sv1) p0 0 (by omega) (nI k)) S k_X9_layPerson gX9_person_X9_layPerson rfl ⟨Nat.le_of_ble_eq_true rfl, Nat.le_of_ble_eq_true rfl⟩ hK hP hD hS hA [0, 1, 2, 3, 4] [] rfl rfl (by decide) (by decide) (by decide) 0 (ci := 9) rfl rfl rfl rfl hl.1 (Nat.le_of_ble_eq_true rfl) rfl dX9_person_58 ⟨Nat.le_of_ble_eq_true rfl, Nat.le_of_ble_eq_true rfl⟩ (fun u H locs hr hP hD hS => ?_)
        have hP : gP Γ [(a 0, .inr (9, [.int (nI 0), .ref (a 1), .ref (a 2), .int (nI (svC sc)), .ref (a 3), .int (v 2), .int (v 3), .int (v 4), .ref (a 4), .int (v 5), .long hs])), (a 1, .inl (Γ.2.1, 130, .inl (upd (g 0) (70 + 5 * p0 + 0) (nI k)))), (a 2, .inl (Γ.2.1, 780, .inl sv1)), (a 3, .inl (Γ.2.1, 60, .inl (g 2))), (a 4, .inl (Γ.2.1, 88, .inl (g 3)))] H := hP
        have hD : va_D A [(a 0, .inr (9, [.int (nI 0), .ref (a 1), .ref (a 2), .int (nI (svC sc)), .ref (a 3), .int (v 2), .int (v 3), .int (v 4), .ref (a 4), .int (v 5), .long hs])), (a 1, .inl (Γ.2.1, 130, .inl (upd (g 0) (70 + 5 * p0 + 0) (nI k)))), (a 2, .inl (Γ.2.1, 780, .inl sv1)), (a 3, .inl (Γ.2.1, 60, .inl (g 2))), (a 4, .inl (Γ.2.1, 88, .inl (g 3)))] := hD
        refine lv_aload_n hx hb dX9_person_61 rfl (lv_at hl 1 rfl) ?_
        refine lv_iload_n hx hb dX9_person_62 rfl (lv_at hl 2 rfl) ?_
        refine lv_iconst (v := nI 1) hx hb dX9_person_63 (by decide) ?_
        refine lv_iload_n hx hb dX9_person_64 rfl (lv_at hl 4 rfl) ?_
        refine cWv (As := [.int (nI p0), .int (nI 1), .int (nI h)]) (rest := []) (wr := []) (m_X9_layPerson l Γ _ a (va_up (va_up v 0 (nI 0)) 1 (nI (svC sc))) hs (va_up (va_up g 0 (upd (g 0) (70 + 5 * p0 + 0) (nI k))) 1 sv1) p0 1 (by omega) (nI h)) S k_X9_layPerson gX9_person_X9_layPerson rfl ⟨Nat.le_of_ble_eq_true rfl, Nat.le_of_ble_eq_true rfl⟩ hK hP hD hS hA [0, 1, 2, 3, 4] [] rfl rfl (by decide) (by decide) (by decide) 0 (ci := 9) rfl rfl rfl rfl hl.1 (Nat.le_of_ble_eq_true rfl) rfl dX9_person_65 ⟨Nat.le_of_ble_eq_true rfl, Nat.le_of_ble_eq_true rfl⟩ (fun u H locs hr hP hD hS => ?_)
        have hP : gP Γ [(a 0, .inr (9, [.int (nI 0), .ref (a 1), .ref (a 2), .int (nI (svC sc)), .ref (a 3), .int (v 2), .int (v 3), .int (v 4), .ref (a 4), .int (v 5), .long hs])), (a 1, .inl (Γ.2.1, 130, .inl (upd (upd (g 0) (70 + 5 * p0 + 0) (nI k)) (70 + 5 * p0 + 1) (nI h)))), (a 2, .inl (Γ.2.1, 780, .inl sv1)), (a 3, .inl (Γ.2.1, 60, .inl (g 2))), (a 4, .inl (Γ.2.1, 88, .inl (g 3)))] H := hP
        have hD : va_D A [(a 0, .inr (9, [.int (nI 0), .ref (a 1), .ref (a 2), .int (nI (svC sc)), .ref (a 3), .int (v 2), .int (v 3), .int (v 4), .ref (a 4), .int (v 5), .long hs])), (a 1, .inl (Γ.2.1, 130, .inl (upd (upd (g 0) (70 + 5 * p0 + 0) (nI k)) (70 + 5 * p0 + 1) (nI h)))), (a 2, .inl (Γ.2.1, 780, .inl sv1)), (a 3, .inl (Γ.2.1, 60, .inl (g 2))), (a 4, .inl (Γ.2.1, 88, .inl (g 3)))] := hD
        refine lv_iload hx hb dX9_person_68 (lv_at hl 0 rfl) ?_
        exact W.iret (v := nI (oP σ p0 0)) hx hb hrt (fun t9 ht9 hW9 => ⟨⟨_, (va_up (va_up v 0 (nI 0)) 1 (nI (svC sc)), hs, va_up (va_up g 0 (upd (upd (g 0) (70 + 5 * p0 + 0) (nI k)) (70 + 5 * p0 + 1) (nI h))) 1 sv1), rfl, MO.ok (by unfold psC; rw [n_9, n_18, n_33]; rfl) rfl (by rw [nI_clamp (by omega)]) (by rw [nI_clamp (by omega), nI_clamp (by omega), nI_clamp (by omega)]; exact (MR.sv (hM.up.up) (per_I hI (by omega) (by omega) (by omega)) rfl h2 hBR hSV)), wd_end hK hP hD [0, 1, 2, 3, 4] (by decide) rfl t9 ht9 hW9⟩, hS.F ht9⟩) hS.2.2 dX9_person_70 hlk
      · have n_33 := bI_z.mp c_33
        refine lv_aload_n hx hb dX9_person_36 rfl (lv_at hl 0 rfl) ?_
        refine lv_iconst (v := nI 2) hx hb dX9_person_37 (by decide) ?_
        refine cWi (As := [.int (nI 2)]) (rest := []) (wr := []) (m_X9_fails l Γ _ a (va_up v 0 (nI 0)) hs g (nI 2)) S k_X9_fails gX9_person_X9_fails rfl ⟨Nat.le_of_ble_eq_true rfl, Nat.le_of_ble_eq_true rfl⟩ hK hP hD hS hA [0, 1, 2, 3, 4] [] rfl rfl (by decide) (by decide) (by decide) 0 (ci := 9) rfl rfl rfl rfl hl.1 (Nat.le_of_ble_eq_true rfl) rfl dX9_person_38 ⟨Nat.le_of_ble_eq_true rfl, Nat.le_of_ble_eq_true rfl⟩ (fun r u H locs hr hP hD hS => ?_)
        have hP : gP Γ [(a 0, .inr (9, [.int (nI 2), .ref (a 1), .ref (a 2), .int (v 1), .ref (a 3), .int (v 2), .int (v 3), .int (v 4), .ref (a 4), .int (v 5), .long hs])), (a 1, .inl (Γ.2.1, 130, .inl (g 0))), (a 2, .inl (Γ.2.1, 780, .inl (g 1))), (a 3, .inl (Γ.2.1, 60, .inl (g 2))), (a 4, .inl (Γ.2.1, 88, .inl (g 3)))] H := hP
        have hD : va_D A [(a 0, .inr (9, [.int (nI 2), .ref (a 1), .ref (a 2), .int (v 1), .ref (a 3), .int (v 2), .int (v 3), .int (v 4), .ref (a 4), .int (v 5), .long hs])), (a 1, .inl (Γ.2.1, 130, .inl (g 0))), (a 2, .inl (Γ.2.1, 780, .inl (g 1))), (a 3, .inl (Γ.2.1, 60, .inl (g 2))), (a 4, .inl (Γ.2.1, 88, .inl (g 3)))] := hD
        subst hr
        exact W.iret (v := nI 0) hx hb hrt (fun t9 ht9 hW9 => ⟨⟨_, (va_up v 0 (nI 2), hs, g), rfl, MO.bad (k := 1) (by unfold psC; first | (rw [n_9, n_18, n_33]; rfl)) rfl rfl (hX.th rfl rfl), wd_end hK hP hD [0, 1, 2, 3, 4] (by decide) rfl t9 ht9 hW9⟩, hS.F ht9⟩) hS.2.2 dX9_person_41 hlk
    · have n_18 := bI_z.mp c_18
      refine lv_aload_n hx hb dX9_person_21 rfl (lv_at hl 0 rfl) ?_
      refine lv_iconst (v := nI 1) hx hb dX9_person_22 (by decide) ?_
      refine cWi (As := [.int (nI 1)]) (rest := []) (wr := []) (m_X9_fails l Γ _ a (va_up v 0 (nI 0)) hs g (nI 1)) S k_X9_fails gX9_person_X9_fails rfl ⟨Nat.le_of_ble_eq_true rfl, Nat.le_of_ble_eq_true rfl⟩ hK hP hD hS hA [0, 1, 2, 3, 4] [] rfl rfl (by decide) (by decide) (by decide) 0 (ci := 9) rfl rfl rfl rfl hl.1 (Nat.le_of_ble_eq_true rfl) rfl dX9_person_23 ⟨Nat.le_of_ble_eq_true rfl, Nat.le_of_ble_eq_true rfl⟩ (fun r u H locs hr hP hD hS => ?_)
      have hP : gP Γ [(a 0, .inr (9, [.int (nI 1), .ref (a 1), .ref (a 2), .int (v 1), .ref (a 3), .int (v 2), .int (v 3), .int (v 4), .ref (a 4), .int (v 5), .long hs])), (a 1, .inl (Γ.2.1, 130, .inl (g 0))), (a 2, .inl (Γ.2.1, 780, .inl (g 1))), (a 3, .inl (Γ.2.1, 60, .inl (g 2))), (a 4, .inl (Γ.2.1, 88, .inl (g 3)))] H := hP
      have hD : va_D A [(a 0, .inr (9, [.int (nI 1), .ref (a 1), .ref (a 2), .int (v 1), .ref (a 3), .int (v 2), .int (v 3), .int (v 4), .ref (a 4), .int (v 5), .long hs])), (a 1, .inl (Γ.2.1, 130, .inl (g 0))), (a 2, .inl (Γ.2.1, 780, .inl (g 1))), (a 3, .inl (Γ.2.1, 60, .inl (g 2))), (a 4, .inl (Γ.2.1, 88, .inl (g 3)))] := hD
      subst hr
      exact W.iret (v := nI 0) hx hb hrt (fun t9 ht9 hW9 => ⟨⟨_, (va_up v 0 (nI 1), hs, g), rfl, MO.bad (k := 0) (by unfold psC; first | (rw [n_9]; rfl) | (rw [n_9, n_18]; rfl)) rfl rfl (hX.th rfl rfl), wd_end hK hP hD [0, 1, 2, 3, 4] (by decide) rfl t9 ht9 hW9⟩, hS.F ht9⟩) hS.2.2 dX9_person_26 hlk

abbrev rm_X9_master : Room := { frames := 2, cells := 0, slots := 0, locals := 43 }
theorem k_X9_master : Cal yX9_master wsX9_master rm_X9_master cX9_master 4 (some .int) 2 0 0 := ⟨⟨_, rfl⟩, rfl, rfl, by decide +kernel⟩
set_option maxHeartbeats 4000000 in
set_option maxRecDepth 100000 in
theorem m_X9_master (l : Launch) (Γ : Gm) (sz : Nat) (a : Nat → Nat) (v : Nat → Int32) (hs : Int64) (g : Nat → Nat → Int32) (σ : Nat → Nat) (sc : Nat) (ss : Nat → Nat → Nat) (nb : Nat) (bb : Nat → Nat) (hX : MR σ sc ss nb bb v g) (ip im : Int32) : MWi (S := WtM) l yX9_master wsX9_master rm_X9_master Γ sz (wMd Γ a v hs g) [.ref (a 0), .int ip, .int im] (fun r u => MO (maC ip im) r (mI (oP σ ip.toNatClampNeg 2)) (MR (masS σ ip.toNatClampNeg (masN im)) (svC sc) (svS sc ss σ) nb bb u.1 u.2.2) (MR σ sc ss nb bb u.1 u.2.2) (u.1 0)) (fun u => (wMd Γ a u.1 u.2.1 u.2.2)) 0 0 := by
  refine mW (cc := cX9_master) (maxL := 4) (ret := (some .int)) (own := RX9) (by decide) rfl rfl (Nat.le_of_ble_eq_true rfl) ?_
  intro p e s m args below meth c S hrt hlk hin hsz hK hP hD hA hS ls hl
  subst hsz
  generalize hAe : va_A (wMd Γ a v hs g) s.heap.size = A at hD hA hS ⊢
  obtain ⟨hx, hb, hml, hown, hts⟩ := id S
  obtain ⟨hM, hI, hc6, h1, h2, hBR, hSR⟩ := id hX
  have hl : lv_has ls 4 [(0, .ref (a 0)), (1, .int ip), (2, .int im)] := hl
  have hH : s.heap = s.heap := rfl
  refine lv_aload_n hx hb dX9_master_0 rfl (lv_at hl 0 rfl) ?_
  refine lv_iconst (v := nI 0) hx hb dX9_master_1 (by decide) ?_
  refine va_put (D := Γ.1) (ci := 9) (v := .int (nI 0)) (ty := .int) (C := RX9) (T := TX9) (N := 11) hx hb hts (by decide +kernel) tyX9 tyX9_ok nmX9 hown hK hP hD hS 0 rfl rfl 0 (by decide) (hts (.fieldLink RX9 22 "RowVeilsModel" "thrown" "I") (by decide +kernel)) (fun _ h9 => h9) rfl (by decide +kernel) rfl rfl (Nat.le_of_ble_eq_true rfl) dX9_master_2 (fun H locs hP hD hS => ?_)
  have hP : gP Γ [(a 0, .inr (9, [.int (nI 0), .ref (a 1), .ref (a 2), .int (v 1), .ref (a 3), .int (v 2), .int (v 3), .int (v 4), .ref (a 4), .int (v 5), .long hs])), (a 1, .inl (Γ.2.1, 130, .inl (g 0))), (a 2, .inl (Γ.2.1, 780, .inl (g 1))), (a 3, .inl (Γ.2.1, 60, .inl (g 2))), (a 4, .inl (Γ.2.1, 88, .inl (g 3)))] H := hP
  have hD : va_D A [(a 0, .inr (9, [.int (nI 0), .ref (a 1), .ref (a 2), .int (v 1), .ref (a 3), .int (v 2), .int (v 3), .int (v 4), .ref (a 4), .int (v 5), .long hs])), (a 1, .inl (Γ.2.1, 130, .inl (g 0))), (a 2, .inl (Γ.2.1, 780, .inl (g 1))), (a 3, .inl (Γ.2.1, 60, .inl (g 2))), (a 4, .inl (Γ.2.1, 88, .inl (g 3)))] := hD
  refine lv_iload_n hx hb dX9_master_5 rfl (lv_at hl 1 rfl) ?_
  refine cSi (As := [.int ip]) (rest := []) (m_X9_isPerson l ip) S k_X9_isPerson gX9_master_X9_isPerson ⟨Nat.le_of_ble_eq_true rfl, Nat.le_of_ble_eq_true rfl⟩ rfl hl.1 (Nat.le_of_ble_eq_true rfl) rfl dX9_master_6 ⟨Nat.le_of_ble_eq_true rfl, Nat.le_of_ble_eq_true rfl⟩ (fun r hr => ?_)
  subst hr
  refine lv_if_eq (tgt := 21) hx hb dX9_master_9 (by decide) (fun c_9 => ?_) (fun c_9 => ?_)
  · have n_9 := bI_z.mp c_9
    refine lv_aload_n hx hb dX9_master_21 rfl (lv_at hl 0 rfl) ?_
    refine lv_iconst (v := nI 1) hx hb dX9_master_22 (by decide) ?_
    refine cWi (As := [.int (nI 1)]) (rest := []) (wr := []) (m_X9_fails l Γ _ a (va_up v 0 (nI 0)) hs g (nI 1)) S k_X9_fails gX9_master_X9_fails rfl ⟨Nat.le_of_ble_eq_true rfl, Nat.le_of_ble_eq_true rfl⟩ hK hP hD hS hA [0, 1, 2, 3, 4] [] rfl rfl (by decide) (by decide) (by decide) 0 (ci := 9) rfl rfl rfl rfl hl.1 (Nat.le_of_ble_eq_true rfl) rfl dX9_master_23 ⟨Nat.le_of_ble_eq_true rfl, Nat.le_of_ble_eq_true rfl⟩ (fun r u H locs hr hP hD hS => ?_)
    have hP : gP Γ [(a 0, .inr (9, [.int (nI 1), .ref (a 1), .ref (a 2), .int (v 1), .ref (a 3), .int (v 2), .int (v 3), .int (v 4), .ref (a 4), .int (v 5), .long hs])), (a 1, .inl (Γ.2.1, 130, .inl (g 0))), (a 2, .inl (Γ.2.1, 780, .inl (g 1))), (a 3, .inl (Γ.2.1, 60, .inl (g 2))), (a 4, .inl (Γ.2.1, 88, .inl (g 3)))] H := hP
    have hD : va_D A [(a 0, .inr (9, [.int (nI 1), .ref (a 1), .ref (a 2), .int (v 1), .ref (a 3), .int (v 2), .int (v 3), .int (v 4), .ref (a 4), .int (v 5), .long hs])), (a 1, .inl (Γ.2.1, 130, .inl (g 0))), (a 2, .inl (Γ.2.1, 780, .inl (g 1))), (a 3, .inl (Γ.2.1, 60, .inl (g 2))), (a 4, .inl (Γ.2.1, 88, .inl (g 3)))] := hD
    subst hr
    exact W.iret (v := nI 0) hx hb hrt (fun t9 ht9 hW9 => ⟨⟨_, (va_up v 0 (nI 1), hs, g), rfl, MO.bad (k := 0) (by unfold maC; first | (rw [n_9]; rfl) | (rw [n_9, n_18]; rfl)) rfl rfl (hX.th rfl rfl), wd_end hK hP hD [0, 1, 2, 3, 4] (by decide) rfl t9 ht9 hW9⟩, hS.F ht9⟩) hS.2.2 dX9_master_26 hlk
  · have n_9 := bI_nz.mp c_9
    refine lv_iload_n hx hb dX9_master_12 rfl (lv_at hl 2 rfl) ?_
    refine lv_iconst (v := (-1)) hx hb dX9_master_13 (by decide) ?_
    refine lv_iconst (v := nI 4) hx hb dX9_master_14 (by decide) ?_
    refine cSi (As := [.int im, .int (-1), .int (nI 4)]) (rest := []) (m_X9_in l im (-1) (nI 4)) S k_X9_in gX9_master_X9_in ⟨Nat.le_of_ble_eq_true rfl, Nat.le_of_ble_eq_true rfl⟩ rfl hl.1 (Nat.le_of_ble_eq_true rfl) rfl dX9_master_15 ⟨Nat.le_of_ble_eq_true rfl, Nat.le_of_ble_eq_true rfl⟩ (fun r hr => ?_)
    subst hr
    refine lv_if_ne (tgt := 27) hx hb dX9_master_18 (by decide) (fun c_18 => ?_) (fun c_18 => ?_)
    · have n_18 := bI_nz.mp c_18
      rw [pl_in (by decide)] at n_18; change msQ im = _ at n_18
      refine lv_iload_n hx hb dX9_master_27 rfl (lv_at hl 1 rfl) ?_
      refine lv_iload_n hx hb dX9_master_28 rfl (lv_at hl 2 rfl) ?_
      refine lv_icmp_ne (tgt := 38) hx hb dX9_master_29 (by decide) (fun c_29 => ?_) (fun c_29 => ?_)
      · obtain ⟨p0, h_p0, rfl⟩ := in_lt (by decide) n_9
        have hp : p0 < 5 := by omega
        obtain ⟨hm1, hm2⟩ := mas_v n_18
        refine lv_aload_n hx hb dX9_master_38 rfl (lv_at hl 0 rfl) ?_
        refine cWv (As := []) (rest := []) (wr := []) (m_X9_saves l Γ _ a (va_up v 0 (nI 0)) hs g σ sc ss h1 hc6 hM hI hSR) S k_X9_saves gX9_master_X9_saves rfl ⟨Nat.le_of_ble_eq_true rfl, Nat.le_of_ble_eq_true rfl⟩ hK hP hD hS hA [0, 1, 2, 3, 4] [] rfl rfl (by decide) (by decide) (by decide) 0 (ci := 9) rfl rfl rfl rfl hl.1 (Nat.le_of_ble_eq_true rfl) rfl dX9_master_39 ⟨Nat.le_of_ble_eq_true rfl, Nat.le_of_ble_eq_true rfl⟩ (fun u H locs hr hP hD hS => ?_)
        obtain ⟨sv1, e_sv1⟩ : ∃ x, x = u := ⟨u, rfl⟩
        subst e_sv1
        have hP : gP Γ [(a 0, .inr (9, [.int (nI 0), .ref (a 1), .ref (a 2), .int (nI (svC sc)), .ref (a 3), .int (v 2), .int (v 3), .int (v 4), .ref (a 4), .int (v 5), .long hs])), (a 1, .inl (Γ.2.1, 130, .inl (g 0))), (a 2, .inl (Γ.2.1, 780, .inl sv1)), (a 3, .inl (Γ.2.1, 60, .inl (g 2))), (a 4, .inl (Γ.2.1, 88, .inl (g 3)))] H := hP
        have hD : va_D A [(a 0, .inr (9, [.int (nI 0), .ref (a 1), .ref (a 2), .int (nI (svC sc)), .ref (a 3), .int (v 2), .int (v 3), .int (v 4), .ref (a 4), .int (v 5), .long hs])), (a 1, .inl (Γ.2.1, 130, .inl (g 0))), (a 2, .inl (Γ.2.1, 780, .inl sv1)), (a 3, .inl (Γ.2.1, 60, .inl (g 2))), (a 4, .inl (Γ.2.1, 88, .inl (g 3)))] := hD
        have hSV := hr
        refine lv_aload_n hx hb dX9_master_42 rfl (lv_at hl 0 rfl) ?_
        refine lv_iload_n hx hb dX9_master_43 rfl (lv_at hl 1 rfl) ?_
        refine cRi (As := [.int (nI p0)]) (rest := []) (m_X9_masterOf l Γ a (va_up (va_up v 0 (nI 0)) 1 (nI (svC sc))) hs (va_up g 1 sv1) σ hM hI p0 (by omega)) S k_X9_masterOf gX9_master_X9_masterOf rfl ⟨Nat.le_of_ble_eq_true rfl, Nat.le_of_ble_eq_true rfl⟩ hK hP [0, 1, 2, 3, 4] rfl 0 (ci := 9) rfl rfl rfl rfl hl.1 (Nat.le_of_ble_eq_true rfl) rfl dX9_master_44 ⟨Nat.le_of_ble_eq_true rfl, Nat.le_of_ble_eq_true rfl⟩ (fun r hr => ?_)
        subst hr
        refine lv_istore_n (lv' := [(3, .int (mI (oP σ p0 2))), (0, .ref (a 0)), (1, .int (nI p0)), (2, .int im)]) hx hb dX9_master_47 rfl hl (by decide) rfl (fun ls hl => ?_)
        refine lv_aload_n hx hb dX9_master_48 rfl (lv_at hl 1 rfl) ?_
        refine lv_iload_n hx hb dX9_master_49 rfl (lv_at hl 2 rfl) ?_
        refine lv_iconst (v := nI 2) hx hb dX9_master_50 (by decide) ?_
        refine lv_iload_n hx hb dX9_master_51 rfl (lv_at hl 3 rfl) ?_
        refine lv_iconst (v := nI 1) hx hb dX9_master_52 (by decide) ?_
        refine lv_iadd hx hb dX9_master_53 ?_
        refine asi (z := nI (masN im)) (mas_p n_18) ?_
        refine cWv (As := [.int (nI p0), .int (nI 2), .int (nI (masN im))]) (rest := []) (wr := []) (m_X9_layPerson l Γ _ a (va_up (va_up v 0 (nI 0)) 1 (nI (svC sc))) hs (va_up g 1 sv1) p0 2 (by omega) (nI (masN im))) S k_X9_layPerson gX9_master_X9_layPerson rfl ⟨Nat.le_of_ble_eq_true rfl, Nat.le_of_ble_eq_true rfl⟩ hK hP hD hS hA [0, 1, 2, 3, 4] [] rfl rfl (by decide) (by decide) (by decide) 0 (ci := 9) rfl rfl rfl rfl hl.1 (Nat.le_of_ble_eq_true rfl) rfl dX9_master_54 ⟨Nat.le_of_ble_eq_true rfl, Nat.le_of_ble_eq_true rfl⟩ (fun u H locs hr hP hD hS => ?_)
        have hP : gP Γ [(a 0, .inr (9, [.int (nI 0), .ref (a 1), .ref (a 2), .int (nI (svC sc)), .ref (a 3), .int (v 2), .int (v 3), .int (v 4), .ref (a 4), .int (v 5), .long hs])), (a 1, .inl (Γ.2.1, 130, .inl (upd (g 0) (70 + 5 * p0 + 2) (nI (masN im))))), (a 2, .inl (Γ.2.1, 780, .inl sv1)), (a 3, .inl (Γ.2.1, 60, .inl (g 2))), (a 4, .inl (Γ.2.1, 88, .inl (g 3)))] H := hP
        have hD : va_D A [(a 0, .inr (9, [.int (nI 0), .ref (a 1), .ref (a 2), .int (nI (svC sc)), .ref (a 3), .int (v 2), .int (v 3), .int (v 4), .ref (a 4), .int (v 5), .long hs])), (a 1, .inl (Γ.2.1, 130, .inl (upd (g 0) (70 + 5 * p0 + 2) (nI (masN im))))), (a 2, .inl (Γ.2.1, 780, .inl sv1)), (a 3, .inl (Γ.2.1, 60, .inl (g 2))), (a 4, .inl (Γ.2.1, 88, .inl (g 3)))] := hD
        refine lv_iload_n hx hb dX9_master_57 rfl (lv_at hl 0 rfl) ?_
        exact W.iret (v := mI (oP σ p0 2)) hx hb hrt (fun t9 ht9 hW9 => ⟨⟨_, (va_up (va_up v 0 (nI 0)) 1 (nI (svC sc)), hs, va_up (va_up g 0 (upd (g 0) (70 + 5 * p0 + 2) (nI (masN im)))) 1 sv1), rfl, MO.ok (by unfold maC; rw [n_9, n_18, if_neg (by decide), if_neg c_29]) rfl (by rw [nI_clamp (by omega)]) (by rw [nI_clamp (by omega)]; exact (MR.sv (hM.up) (mas_I hI (by omega) hm2) rfl h2 hBR hSV)), wd_end hK hP hD [0, 1, 2, 3, 4] (by decide) rfl t9 ht9 hW9⟩, hS.F ht9⟩) hS.2.2 dX9_master_58 hlk
      · refine lv_aload_n hx hb dX9_master_32 rfl (lv_at hl 0 rfl) ?_
        refine lv_iconst (v := nI 2) hx hb dX9_master_33 (by decide) ?_
        refine cWi (As := [.int (nI 2)]) (rest := []) (wr := []) (m_X9_fails l Γ _ a (va_up v 0 (nI 0)) hs g (nI 2)) S k_X9_fails gX9_master_X9_fails rfl ⟨Nat.le_of_ble_eq_true rfl, Nat.le_of_ble_eq_true rfl⟩ hK hP hD hS hA [0, 1, 2, 3, 4] [] rfl rfl (by decide) (by decide) (by decide) 0 (ci := 9) rfl rfl rfl rfl hl.1 (Nat.le_of_ble_eq_true rfl) rfl dX9_master_34 ⟨Nat.le_of_ble_eq_true rfl, Nat.le_of_ble_eq_true rfl⟩ (fun r u H locs hr hP hD hS => ?_)
        have hP : gP Γ [(a 0, .inr (9, [.int (nI 2), .ref (a 1), .ref (a 2), .int (v 1), .ref (a 3), .int (v 2), .int (v 3), .int (v 4), .ref (a 4), .int (v 5), .long hs])), (a 1, .inl (Γ.2.1, 130, .inl (g 0))), (a 2, .inl (Γ.2.1, 780, .inl (g 1))), (a 3, .inl (Γ.2.1, 60, .inl (g 2))), (a 4, .inl (Γ.2.1, 88, .inl (g 3)))] H := hP
        have hD : va_D A [(a 0, .inr (9, [.int (nI 2), .ref (a 1), .ref (a 2), .int (v 1), .ref (a 3), .int (v 2), .int (v 3), .int (v 4), .ref (a 4), .int (v 5), .long hs])), (a 1, .inl (Γ.2.1, 130, .inl (g 0))), (a 2, .inl (Γ.2.1, 780, .inl (g 1))), (a 3, .inl (Γ.2.1, 60, .inl (g 2))), (a 4, .inl (Γ.2.1, 88, .inl (g 3)))] := hD
        subst hr
        exact W.iret (v := nI 0) hx hb hrt (fun t9 ht9 hW9 => ⟨⟨_, (va_up v 0 (nI 2), hs, g), rfl, MO.bad (k := 1) (by unfold maC; rw [n_9, n_18, if_neg (by decide), if_pos c_29]) rfl rfl (hX.th rfl rfl), wd_end hK hP hD [0, 1, 2, 3, 4] (by decide) rfl t9 ht9 hW9⟩, hS.F ht9⟩) hS.2.2 dX9_master_37 hlk
    · have n_18 := bI_z.mp c_18
      rw [pl_in (by decide)] at n_18; change msQ im = _ at n_18
      refine lv_aload_n hx hb dX9_master_21 rfl (lv_at hl 0 rfl) ?_
      refine lv_iconst (v := nI 1) hx hb dX9_master_22 (by decide) ?_
      refine cWi (As := [.int (nI 1)]) (rest := []) (wr := []) (m_X9_fails l Γ _ a (va_up v 0 (nI 0)) hs g (nI 1)) S k_X9_fails gX9_master_X9_fails rfl ⟨Nat.le_of_ble_eq_true rfl, Nat.le_of_ble_eq_true rfl⟩ hK hP hD hS hA [0, 1, 2, 3, 4] [] rfl rfl (by decide) (by decide) (by decide) 0 (ci := 9) rfl rfl rfl rfl hl.1 (Nat.le_of_ble_eq_true rfl) rfl dX9_master_23 ⟨Nat.le_of_ble_eq_true rfl, Nat.le_of_ble_eq_true rfl⟩ (fun r u H locs hr hP hD hS => ?_)
      have hP : gP Γ [(a 0, .inr (9, [.int (nI 1), .ref (a 1), .ref (a 2), .int (v 1), .ref (a 3), .int (v 2), .int (v 3), .int (v 4), .ref (a 4), .int (v 5), .long hs])), (a 1, .inl (Γ.2.1, 130, .inl (g 0))), (a 2, .inl (Γ.2.1, 780, .inl (g 1))), (a 3, .inl (Γ.2.1, 60, .inl (g 2))), (a 4, .inl (Γ.2.1, 88, .inl (g 3)))] H := hP
      have hD : va_D A [(a 0, .inr (9, [.int (nI 1), .ref (a 1), .ref (a 2), .int (v 1), .ref (a 3), .int (v 2), .int (v 3), .int (v 4), .ref (a 4), .int (v 5), .long hs])), (a 1, .inl (Γ.2.1, 130, .inl (g 0))), (a 2, .inl (Γ.2.1, 780, .inl (g 1))), (a 3, .inl (Γ.2.1, 60, .inl (g 2))), (a 4, .inl (Γ.2.1, 88, .inl (g 3)))] := hD
      subst hr
      exact W.iret (v := nI 0) hx hb hrt (fun t9 ht9 hW9 => ⟨⟨_, (va_up v 0 (nI 1), hs, g), rfl, MO.bad (k := 0) (by unfold maC; first | (rw [n_9]; rfl) | (rw [n_9, n_18]; rfl)) rfl rfl (hX.th rfl rfl), wd_end hK hP hD [0, 1, 2, 3, 4] (by decide) rfl t9 ht9 hW9⟩, hS.F ht9⟩) hS.2.2 dX9_master_26 hlk

abbrev rm_X9_force : Room := { frames := 1, cells := 0, slots := 0, locals := 22 }
theorem k_X9_force : Cal yX9_force wsX9_force rm_X9_force cX9_force 4 (some .int) 2 0 0 := ⟨⟨_, rfl⟩, rfl, rfl, by decide +kernel⟩
set_option maxHeartbeats 4000000 in
set_option maxRecDepth 100000 in
theorem m_X9_force (l : Launch) (Γ : Gm) (sz : Nat) (a : Nat → Nat) (v : Nat → Int32) (hs : Int64) (g : Nat → Nat → Int32) (σ : Nat → Nat) (sc : Nat) (ss : Nat → Nat → Nat) (nb : Nat) (bb : Nat → Nat) (hX : MR σ sc ss nb bb v g) (ip : Int32) (ib : Bool) : MWi (S := WtM) l yX9_force wsX9_force rm_X9_force Γ sz (wMd Γ a v hs g) [.ref (a 0), .int ip, .int (bI ib)] (fun r u => MO (foC ip) r (nI ((σ 1 >>> ip.toNatClampNeg) % 2)) (MR (frcS σ (frcN (σ 1) ip.toNatClampNeg ib)) (svC sc) (svS sc ss σ) nb bb u.1 u.2.2) (MR σ sc ss nb bb u.1 u.2.2) (u.1 0)) (fun u => (wMd Γ a u.1 u.2.1 u.2.2)) 0 0 := by
  refine mW (cc := cX9_force) (maxL := 4) (ret := (some .int)) (own := RX9) (by decide) rfl rfl (Nat.le_of_ble_eq_true rfl) ?_
  intro p e s m args below meth c S hrt hlk hin hsz hK hP hD hA hS ls hl
  subst hsz
  generalize hAe : va_A (wMd Γ a v hs g) s.heap.size = A at hD hA hS ⊢
  obtain ⟨hx, hb, hml, hown, hts⟩ := id S
  obtain ⟨hM, hI, hc6, h1, h2, hBR, hSR⟩ := id hX
  have hu := hI.rules
  have hl : lv_has ls 4 [(0, .ref (a 0)), (1, .int ip), (2, .int (bI ib))] := hl
  have hH : s.heap = s.heap := rfl
  refine lv_aload_n hx hb dX9_force_0 rfl (lv_at hl 0 rfl) ?_
  refine lv_iconst (v := nI 0) hx hb dX9_force_1 (by decide) ?_
  refine va_put (D := Γ.1) (ci := 9) (v := .int (nI 0)) (ty := .int) (C := RX9) (T := TX9) (N := 11) hx hb hts (by decide +kernel) tyX9 tyX9_ok nmX9 hown hK hP hD hS 0 rfl rfl 0 (by decide) (hts (.fieldLink RX9 22 "RowVeilsModel" "thrown" "I") (by decide +kernel)) (fun _ h9 => h9) rfl (by decide +kernel) rfl rfl (Nat.le_of_ble_eq_true rfl) dX9_force_2 (fun H locs hP hD hS => ?_)
  have hP : gP Γ [(a 0, .inr (9, [.int (nI 0), .ref (a 1), .ref (a 2), .int (v 1), .ref (a 3), .int (v 2), .int (v 3), .int (v 4), .ref (a 4), .int (v 5), .long hs])), (a 1, .inl (Γ.2.1, 130, .inl (g 0))), (a 2, .inl (Γ.2.1, 780, .inl (g 1))), (a 3, .inl (Γ.2.1, 60, .inl (g 2))), (a 4, .inl (Γ.2.1, 88, .inl (g 3)))] H := hP
  have hD : va_D A [(a 0, .inr (9, [.int (nI 0), .ref (a 1), .ref (a 2), .int (v 1), .ref (a 3), .int (v 2), .int (v 3), .int (v 4), .ref (a 4), .int (v 5), .long hs])), (a 1, .inl (Γ.2.1, 130, .inl (g 0))), (a 2, .inl (Γ.2.1, 780, .inl (g 1))), (a 3, .inl (Γ.2.1, 60, .inl (g 2))), (a 4, .inl (Γ.2.1, 88, .inl (g 3)))] := hD
  refine lv_iload_n hx hb dX9_force_5 rfl (lv_at hl 1 rfl) ?_
  refine lv_iconst (v := nI 0) hx hb dX9_force_6 (by decide) ?_
  refine lv_iconst (v := nI 3) hx hb dX9_force_7 (by decide) ?_
  refine cSi (As := [.int ip, .int (nI 0), .int (nI 3)]) (rest := []) (m_X9_in l ip (nI 0) (nI 3)) S k_X9_in gX9_force_X9_in ⟨Nat.le_of_ble_eq_true rfl, Nat.le_of_ble_eq_true rfl⟩ rfl hl.1 (Nat.le_of_ble_eq_true rfl) rfl dX9_force_8 ⟨Nat.le_of_ble_eq_true rfl, Nat.le_of_ble_eq_true rfl⟩ (fun r hr => ?_)
  subst hr
  refine lv_if_ne (tgt := 20) hx hb dX9_force_11 (by decide) (fun c_11 => ?_) (fun c_11 => ?_)
  · have n_11 := bI_nz.mp c_11
    obtain ⟨p0, h_p0, rfl⟩ := in_lt (by decide) n_11
    refine lv_aload_n hx hb dX9_force_20 rfl (lv_at hl 0 rfl) ?_
    refine cWv (As := []) (rest := []) (wr := []) (m_X9_saves l Γ _ a (va_up v 0 (nI 0)) hs g σ sc ss h1 hc6 hM hI hSR) S k_X9_saves gX9_force_X9_saves rfl ⟨Nat.le_of_ble_eq_true rfl, Nat.le_of_ble_eq_true rfl⟩ hK hP hD hS hA [0, 1, 2, 3, 4] [] rfl rfl (by decide) (by decide) (by decide) 0 (ci := 9) rfl rfl rfl rfl hl.1 (Nat.le_of_ble_eq_true rfl) rfl dX9_force_21 ⟨Nat.le_of_ble_eq_true rfl, Nat.le_of_ble_eq_true rfl⟩ (fun u H locs hr hP hD hS => ?_)
    obtain ⟨sv1, e_sv1⟩ : ∃ x, x = u := ⟨u, rfl⟩
    subst e_sv1
    have hP : gP Γ [(a 0, .inr (9, [.int (nI 0), .ref (a 1), .ref (a 2), .int (nI (svC sc)), .ref (a 3), .int (v 2), .int (v 3), .int (v 4), .ref (a 4), .int (v 5), .long hs])), (a 1, .inl (Γ.2.1, 130, .inl (g 0))), (a 2, .inl (Γ.2.1, 780, .inl sv1)), (a 3, .inl (Γ.2.1, 60, .inl (g 2))), (a 4, .inl (Γ.2.1, 88, .inl (g 3)))] H := hP
    have hD : va_D A [(a 0, .inr (9, [.int (nI 0), .ref (a 1), .ref (a 2), .int (nI (svC sc)), .ref (a 3), .int (v 2), .int (v 3), .int (v 4), .ref (a 4), .int (v 5), .long hs])), (a 1, .inl (Γ.2.1, 130, .inl (g 0))), (a 2, .inl (Γ.2.1, 780, .inl sv1)), (a 3, .inl (Γ.2.1, 60, .inl (g 2))), (a 4, .inl (Γ.2.1, 88, .inl (g 3)))] := hD
    have hSV := hr
    refine lv_aload_n hx hb dX9_force_24 rfl (lv_at hl 0 rfl) ?_
    refine va_get (D := Γ.1) (ci := 9) (v := .ref (a 1)) (C := RX9) (T := TX9) (N := 11) hx hb hts (by decide +kernel) hown hK hP 0 rfl rfl 1 (by decide) (hts (.fieldLink RX9 7 "RowVeilsModel" "s" "[I") (by decide +kernel)) (fun _ h9 => h9) rfl dX9_force_25 ?_
    refine lv_iconst (v := nI 1) hx hb dX9_force_28 (by decide) ?_
    refine va_iald hx hb hK hP 1 0 rfl rfl (vp_in_nI (by omega) (by omega)) dX9_force_29 ?_
    refine asi (z := nI (σ 1)) ((congrArg _ (nI_clamp (by omega))).trans (hM _ (by omega))) ?_
    refine lv_iload_n hx hb dX9_force_30 rfl (lv_at hl 1 rfl) ?_
    refine lv_ishr hx hb dX9_force_31 ?_
    refine asi (z := nI (σ 1 >>> p0)) (shr_n (by omega) (by omega)) ?_
    refine lv_iconst (v := nI 1) hx hb dX9_force_32 (by decide) ?_
    refine lv_iand hx hb dX9_force_33 ?_
    refine asi (z := nI ((σ 1 >>> p0) % 2)) (by rw [nI_and, Nat.and_one_is_mod]) ?_
    refine lv_istore_n (lv' := [(3, .int (nI ((σ 1 >>> p0) % 2))), (0, .ref (a 0)), (1, .int (nI p0)), (2, .int (bI ib))]) hx hb dX9_force_34 rfl hl (by decide) rfl (fun ls hl => ?_)
    refine lv_aload_n hx hb dX9_force_35 rfl (lv_at hl 1 rfl) ?_
    refine va_get (D := Γ.1) (ci := 9) (v := .ref (a 1)) (C := RX9) (T := TX9) (N := 11) hx hb hts (by decide +kernel) hown hK hP 0 rfl rfl 1 (by decide) (hts (.fieldLink RX9 7 "RowVeilsModel" "s" "[I") (by decide +kernel)) (fun _ h9 => h9) rfl dX9_force_36 ?_
    refine lv_iconst (v := nI 1) hx hb dX9_force_39 (by decide) ?_
    refine lv_aload_n hx hb dX9_force_40 rfl (lv_at hl 1 rfl) ?_
    refine va_get (D := Γ.1) (ci := 9) (v := .ref (a 1)) (C := RX9) (T := TX9) (N := 11) hx hb hts (by decide +kernel) hown hK hP 0 rfl rfl 1 (by decide) (hts (.fieldLink RX9 7 "RowVeilsModel" "s" "[I") (by decide +kernel)) (fun _ h9 => h9) rfl dX9_force_41 ?_
    refine lv_iconst (v := nI 1) hx hb dX9_force_44 (by decide) ?_
    refine va_iald hx hb hK hP 1 0 rfl rfl (vp_in_nI (by omega) (by omega)) dX9_force_45 ?_
    refine asi (z := nI (σ 1)) ((congrArg _ (nI_clamp (by omega))).trans (hM _ (by omega))) ?_
    refine lv_iconst (v := nI 1) hx hb dX9_force_46 (by decide) ?_
    refine lv_iload_n hx hb dX9_force_47 rfl (lv_at hl 2 rfl) ?_
    refine lv_ishl hx hb dX9_force_48 ?_
    refine asi (z := nI (2 ^ p0)) (sh1 (by omega)) ?_
    refine lv_iconst (v := (-1)) hx hb dX9_force_49 (by decide) ?_
    refine lv_ixor hx hb dX9_force_50 ?_
    refine asi (z := nI (2 ^ p0 ^^^ (2 ^ 32 - 1))) (by rw [show (-1 : Int32) = nI (2 ^ 32 - 1) from rfl, nI_xor]) ?_
    refine lv_iand hx hb dX9_force_51 ?_
    refine asi (z := nI (σ 1 &&& (2 ^ p0 ^^^ (2 ^ 32 - 1)))) (nI_and _ _) ?_
    refine lv_iload_n hx hb dX9_force_52 rfl (lv_at hl 3 rfl) ?_
    refine lv_if_eq (tgt := 62) hx hb dX9_force_53 (by decide) (fun c_53 => ?_) (fun c_53 => ?_)
    · have n_53 := bI_z.mp c_53
      subst n_53
      refine lv_iconst (v := nI 0) hx hb dX9_force_62 (by decide) ?_
      refine lv_ior hx hb dX9_force_63 ?_
      refine asi (z := nI (frcN (σ 1) p0 false)) ((nI_or _ _).trans (congrArg nI (Nat.or_zero _))) ?_
      refine va_iast hx hb hK hP hD hS 1 0 rfl rfl (vp_in_nI (by omega) (by omega)) dX9_force_64 (fun H locs hP hD hS => ?_)
      have ec : (nI 1).toNatClampNeg = 1 := nI_clamp (by omega)
      rw [ec] at hP hD
      clear ec
      have hP : gP Γ [(a 0, .inr (9, [.int (nI 0), .ref (a 1), .ref (a 2), .int (nI (svC sc)), .ref (a 3), .int (v 2), .int (v 3), .int (v 4), .ref (a 4), .int (v 5), .long hs])), (a 1, .inl (Γ.2.1, 130, .inl (upd (g 0) 1 (nI (frcN (σ 1) p0 false))))), (a 2, .inl (Γ.2.1, 780, .inl sv1)), (a 3, .inl (Γ.2.1, 60, .inl (g 2))), (a 4, .inl (Γ.2.1, 88, .inl (g 3)))] H := hP
      have hD : va_D A [(a 0, .inr (9, [.int (nI 0), .ref (a 1), .ref (a 2), .int (nI (svC sc)), .ref (a 3), .int (v 2), .int (v 3), .int (v 4), .ref (a 4), .int (v 5), .long hs])), (a 1, .inl (Γ.2.1, 130, .inl (upd (g 0) 1 (nI (frcN (σ 1) p0 false))))), (a 2, .inl (Γ.2.1, 780, .inl sv1)), (a 3, .inl (Γ.2.1, 60, .inl (g 2))), (a 4, .inl (Γ.2.1, 88, .inl (g 3)))] := hD
      refine lv_iload_n hx hb dX9_force_65 rfl (lv_at hl 0 rfl) ?_
      exact W.iret (v := nI ((σ 1 >>> p0) % 2)) hx hb hrt (fun t9 ht9 hW9 => ⟨⟨_, (va_up (va_up v 0 (nI 0)) 1 (nI (svC sc)), hs, va_up (va_up g 0 (upd (g 0) 1 (nI (frcN (σ 1) p0 false)))) 1 sv1), rfl, MO.ok (by unfold foC; rw [n_11]; rfl) rfl (by rw [nI_clamp (by omega)]) (by rw [nI_clamp (by omega)]; exact (MR.sv (hM.up) (frc_I hI (frcN_lt (by omega) (by omega))) rfl h2 hBR hSV)), wd_end hK hP hD [0, 1, 2, 3, 4] (by decide) rfl t9 ht9 hW9⟩, hS.F ht9⟩) hS.2.2 dX9_force_66 hlk
    · have n_53 := bI_nz.mp c_53
      subst n_53
      refine lv_iconst (v := nI 1) hx hb dX9_force_56 (by decide) ?_
      refine lv_iload_n hx hb dX9_force_57 rfl (lv_at hl 2 rfl) ?_
      refine lv_ishl hx hb dX9_force_58 ?_
      refine asi (z := nI (2 ^ p0)) (sh1 (by omega)) ?_
      refine lv_goto (tgt := 63) hx hb dX9_force_59 (by decide) ?_
      refine lv_ior hx hb dX9_force_63 ?_
      refine asi (z := nI (frcN (σ 1) p0 true)) ((nI_or _ _).trans (congrArg nI (frc_t (by omega) (by omega)))) ?_
      refine va_iast hx hb hK hP hD hS 1 0 rfl rfl (vp_in_nI (by omega) (by omega)) dX9_force_64 (fun H locs hP hD hS => ?_)
      have ec : (nI 1).toNatClampNeg = 1 := nI_clamp (by omega)
      rw [ec] at hP hD
      clear ec
      have hP : gP Γ [(a 0, .inr (9, [.int (nI 0), .ref (a 1), .ref (a 2), .int (nI (svC sc)), .ref (a 3), .int (v 2), .int (v 3), .int (v 4), .ref (a 4), .int (v 5), .long hs])), (a 1, .inl (Γ.2.1, 130, .inl (upd (g 0) 1 (nI (frcN (σ 1) p0 true))))), (a 2, .inl (Γ.2.1, 780, .inl sv1)), (a 3, .inl (Γ.2.1, 60, .inl (g 2))), (a 4, .inl (Γ.2.1, 88, .inl (g 3)))] H := hP
      have hD : va_D A [(a 0, .inr (9, [.int (nI 0), .ref (a 1), .ref (a 2), .int (nI (svC sc)), .ref (a 3), .int (v 2), .int (v 3), .int (v 4), .ref (a 4), .int (v 5), .long hs])), (a 1, .inl (Γ.2.1, 130, .inl (upd (g 0) 1 (nI (frcN (σ 1) p0 true))))), (a 2, .inl (Γ.2.1, 780, .inl sv1)), (a 3, .inl (Γ.2.1, 60, .inl (g 2))), (a 4, .inl (Γ.2.1, 88, .inl (g 3)))] := hD
      refine lv_iload_n hx hb dX9_force_65 rfl (lv_at hl 0 rfl) ?_
      exact W.iret (v := nI ((σ 1 >>> p0) % 2)) hx hb hrt (fun t9 ht9 hW9 => ⟨⟨_, (va_up (va_up v 0 (nI 0)) 1 (nI (svC sc)), hs, va_up (va_up g 0 (upd (g 0) 1 (nI (frcN (σ 1) p0 true)))) 1 sv1), rfl, MO.ok (by unfold foC; rw [n_11]; rfl) rfl (by rw [nI_clamp (by omega)]) (by rw [nI_clamp (by omega)]; exact (MR.sv (hM.up) (frc_I hI (frcN_lt (by omega) (by omega))) rfl h2 hBR hSV)), wd_end hK hP hD [0, 1, 2, 3, 4] (by decide) rfl t9 ht9 hW9⟩, hS.F ht9⟩) hS.2.2 dX9_force_66 hlk
  · have n_11 := bI_z.mp c_11
    refine lv_aload_n hx hb dX9_force_14 rfl (lv_at hl 0 rfl) ?_
    refine lv_iconst (v := nI 1) hx hb dX9_force_15 (by decide) ?_
    refine cWi (As := [.int (nI 1)]) (rest := []) (wr := []) (m_X9_fails l Γ _ a (va_up v 0 (nI 0)) hs g (nI 1)) S k_X9_fails gX9_force_X9_fails rfl ⟨Nat.le_of_ble_eq_true rfl, Nat.le_of_ble_eq_true rfl⟩ hK hP hD hS hA [0, 1, 2, 3, 4] [] rfl rfl (by decide) (by decide) (by decide) 0 (ci := 9) rfl rfl rfl rfl hl.1 (Nat.le_of_ble_eq_true rfl) rfl dX9_force_16 ⟨Nat.le_of_ble_eq_true rfl, Nat.le_of_ble_eq_true rfl⟩ (fun r u H locs hr hP hD hS => ?_)
    have hP : gP Γ [(a 0, .inr (9, [.int (nI 1), .ref (a 1), .ref (a 2), .int (v 1), .ref (a 3), .int (v 2), .int (v 3), .int (v 4), .ref (a 4), .int (v 5), .long hs])), (a 1, .inl (Γ.2.1, 130, .inl (g 0))), (a 2, .inl (Γ.2.1, 780, .inl (g 1))), (a 3, .inl (Γ.2.1, 60, .inl (g 2))), (a 4, .inl (Γ.2.1, 88, .inl (g 3)))] H := hP
    have hD : va_D A [(a 0, .inr (9, [.int (nI 1), .ref (a 1), .ref (a 2), .int (v 1), .ref (a 3), .int (v 2), .int (v 3), .int (v 4), .ref (a 4), .int (v 5), .long hs])), (a 1, .inl (Γ.2.1, 130, .inl (g 0))), (a 2, .inl (Γ.2.1, 780, .inl (g 1))), (a 3, .inl (Γ.2.1, 60, .inl (g 2))), (a 4, .inl (Γ.2.1, 88, .inl (g 3)))] := hD
    subst hr
    exact W.iret (v := nI 0) hx hb hrt (fun t9 ht9 hW9 => ⟨⟨_, (va_up v 0 (nI 1), hs, g), rfl, MO.bad (k := 0) (by unfold foC; first | (rw [n_11]; rfl)) rfl rfl (hX.th rfl rfl), wd_end hK hP hD [0, 1, 2, 3, 4] (by decide) rfl t9 ht9 hW9⟩, hS.F ht9⟩) hS.2.2 dX9_force_19 hlk

abbrev rm_X9_set : Room := { frames := 1, cells := 0, slots := 0, locals := 22 }
theorem k_X9_set : Cal yX9_set wsX9_set rm_X9_set cX9_set 4 (some .int) 2 0 0 := ⟨⟨_, rfl⟩, rfl, rfl, by decide +kernel⟩
set_option maxHeartbeats 4000000 in
set_option maxRecDepth 100000 in
theorem m_X9_set (l : Launch) (Γ : Gm) (sz : Nat) (a : Nat → Nat) (v : Nat → Int32) (hs : Int64) (g : Nat → Nat → Int32) (σ : Nat → Nat) (sc : Nat) (ss : Nat → Nat → Nat) (nb : Nat) (bb : Nat → Nat) (hX : MR σ sc ss nb bb v g) (ix iv : Int32) : MWi (S := WtM) l yX9_set wsX9_set rm_X9_set Γ sz (wMd Γ a v hs g) [.ref (a 0), .int ix, .int iv] (fun r u => MO (seC ix iv) r (nI (σ (2 + ix.toNatClampNeg))) (MR (setS σ ix.toNatClampNeg iv.toNatClampNeg) (svC sc) (svS sc ss σ) nb bb u.1 u.2.2) (MR σ sc ss nb bb u.1 u.2.2) (u.1 0)) (fun u => (wMd Γ a u.1 u.2.1 u.2.2)) 0 0 := by
  refine mW (cc := cX9_set) (maxL := 4) (ret := (some .int)) (own := RX9) (by decide) rfl rfl (Nat.le_of_ble_eq_true rfl) ?_
  intro p e s m args below meth c S hrt hlk hin hsz hK hP hD hA hS ls hl
  subst hsz
  generalize hAe : va_A (wMd Γ a v hs g) s.heap.size = A at hD hA hS ⊢
  obtain ⟨hx, hb, hml, hown, hts⟩ := id S
  obtain ⟨hM, hI, hc6, h1, h2, hBR, hSR⟩ := id hX
  have hl : lv_has ls 4 [(0, .ref (a 0)), (1, .int ix), (2, .int iv)] := hl
  have hH : s.heap = s.heap := rfl
  refine lv_aload_n hx hb dX9_set_0 rfl (lv_at hl 0 rfl) ?_
  refine lv_iconst (v := nI 0) hx hb dX9_set_1 (by decide) ?_
  refine va_put (D := Γ.1) (ci := 9) (v := .int (nI 0)) (ty := .int) (C := RX9) (T := TX9) (N := 11) hx hb hts (by decide +kernel) tyX9 tyX9_ok nmX9 hown hK hP hD hS 0 rfl rfl 0 (by decide) (hts (.fieldLink RX9 22 "RowVeilsModel" "thrown" "I") (by decide +kernel)) (fun _ h9 => h9) rfl (by decide +kernel) rfl rfl (Nat.le_of_ble_eq_true rfl) dX9_set_2 (fun H locs hP hD hS => ?_)
  have hP : gP Γ [(a 0, .inr (9, [.int (nI 0), .ref (a 1), .ref (a 2), .int (v 1), .ref (a 3), .int (v 2), .int (v 3), .int (v 4), .ref (a 4), .int (v 5), .long hs])), (a 1, .inl (Γ.2.1, 130, .inl (g 0))), (a 2, .inl (Γ.2.1, 780, .inl (g 1))), (a 3, .inl (Γ.2.1, 60, .inl (g 2))), (a 4, .inl (Γ.2.1, 88, .inl (g 3)))] H := hP
  have hD : va_D A [(a 0, .inr (9, [.int (nI 0), .ref (a 1), .ref (a 2), .int (v 1), .ref (a 3), .int (v 2), .int (v 3), .int (v 4), .ref (a 4), .int (v 5), .long hs])), (a 1, .inl (Γ.2.1, 130, .inl (g 0))), (a 2, .inl (Γ.2.1, 780, .inl (g 1))), (a 3, .inl (Γ.2.1, 60, .inl (g 2))), (a 4, .inl (Γ.2.1, 88, .inl (g 3)))] := hD
  refine lv_iload_n hx hb dX9_set_5 rfl (lv_at hl 1 rfl) ?_
  refine lv_iconst (v := nI 0) hx hb dX9_set_6 (by decide) ?_
  refine lv_iconst (v := nI 2) hx hb dX9_set_7 (by decide) ?_
  refine cSi (As := [.int ix, .int (nI 0), .int (nI 2)]) (rest := []) (m_X9_in l ix (nI 0) (nI 2)) S k_X9_in gX9_set_X9_in ⟨Nat.le_of_ble_eq_true rfl, Nat.le_of_ble_eq_true rfl⟩ rfl hl.1 (Nat.le_of_ble_eq_true rfl) rfl dX9_set_8 ⟨Nat.le_of_ble_eq_true rfl, Nat.le_of_ble_eq_true rfl⟩ (fun r hr => ?_)
  subst hr
  refine lv_if_ne (tgt := 20) hx hb dX9_set_11 (by decide) (fun c_11 => ?_) (fun c_11 => ?_)
  · have n_11 := bI_nz.mp c_11
    obtain ⟨i, h_i, rfl⟩ := in_lt (by decide) n_11
    refine lv_iload_n hx hb dX9_set_20 rfl (lv_at hl 1 rfl) ?_
    refine lv_iconst (v := nI 2) hx hb dX9_set_21 (by decide) ?_
    refine lv_icmp_ge (tgt := 35) hx hb dX9_set_22 (by decide) (fun c_22 => ?_) (fun c_22 => ?_)
    · have n_22 : i = 2 := by have := (nI_leI (a := 2) (b := i) (by decide) (by omega)).mp c_22; omega
      have hq2 : nI i = nI 2 := congrArg nI n_22
      refine lv_iload_n hx hb dX9_set_35 rfl (lv_at hl 1 rfl) ?_
      refine lv_iconst (v := nI 2) hx hb dX9_set_36 (by decide) ?_
      refine lv_icmp_ne (tgt := 55) hx hb dX9_set_37 (by decide) (fun c_37 => ?_) (fun c_37 => ?_)
      · exact absurd hq2 c_37
      · refine lv_iload_n hx hb dX9_set_40 rfl (lv_at hl 2 rfl) ?_
        refine lv_iconst (v := nI 0) hx hb dX9_set_41 (by decide) ?_
        refine lv_iconst (v := nI 1) hx hb dX9_set_42 (by decide) ?_
        refine cSi (As := [.int iv, .int (nI 0), .int (nI 1)]) (rest := []) (m_X9_in l iv (nI 0) (nI 1)) S k_X9_in gX9_set_X9_in ⟨Nat.le_of_ble_eq_true rfl, Nat.le_of_ble_eq_true rfl⟩ rfl hl.1 (Nat.le_of_ble_eq_true rfl) rfl dX9_set_43 ⟨Nat.le_of_ble_eq_true rfl, Nat.le_of_ble_eq_true rfl⟩ (fun r hr => ?_)
        subst hr
        refine lv_if_ne (tgt := 55) hx hb dX9_set_46 (by decide) (fun c_46 => ?_) (fun c_46 => ?_)
        · have n_46 := bI_nz.mp c_46
          obtain ⟨w, hw1, hw2, rfl⟩ := in_1 (by decide) (by decide) n_46
          refine lv_aload_n hx hb dX9_set_55 rfl (lv_at hl 0 rfl) ?_
          refine cWv (As := []) (rest := []) (wr := []) (m_X9_saves l Γ _ a (va_up v 0 (nI 0)) hs g σ sc ss h1 hc6 hM hI hSR) S k_X9_saves gX9_set_X9_saves rfl ⟨Nat.le_of_ble_eq_true rfl, Nat.le_of_ble_eq_true rfl⟩ hK hP hD hS hA [0, 1, 2, 3, 4] [] rfl rfl (by decide) (by decide) (by decide) 0 (ci := 9) rfl rfl rfl rfl hl.1 (Nat.le_of_ble_eq_true rfl) rfl dX9_set_56 ⟨Nat.le_of_ble_eq_true rfl, Nat.le_of_ble_eq_true rfl⟩ (fun u H locs hr hP hD hS => ?_)
          obtain ⟨sv1, e_sv1⟩ : ∃ x, x = u := ⟨u, rfl⟩
          subst e_sv1
          have hP : gP Γ [(a 0, .inr (9, [.int (nI 0), .ref (a 1), .ref (a 2), .int (nI (svC sc)), .ref (a 3), .int (v 2), .int (v 3), .int (v 4), .ref (a 4), .int (v 5), .long hs])), (a 1, .inl (Γ.2.1, 130, .inl (g 0))), (a 2, .inl (Γ.2.1, 780, .inl sv1)), (a 3, .inl (Γ.2.1, 60, .inl (g 2))), (a 4, .inl (Γ.2.1, 88, .inl (g 3)))] H := hP
          have hD : va_D A [(a 0, .inr (9, [.int (nI 0), .ref (a 1), .ref (a 2), .int (nI (svC sc)), .ref (a 3), .int (v 2), .int (v 3), .int (v 4), .ref (a 4), .int (v 5), .long hs])), (a 1, .inl (Γ.2.1, 130, .inl (g 0))), (a 2, .inl (Γ.2.1, 780, .inl sv1)), (a 3, .inl (Γ.2.1, 60, .inl (g 2))), (a 4, .inl (Γ.2.1, 88, .inl (g 3)))] := hD
          have hSV := hr
          refine lv_aload_n hx hb dX9_set_59 rfl (lv_at hl 0 rfl) ?_
          refine va_get (D := Γ.1) (ci := 9) (v := .ref (a 1)) (C := RX9) (T := TX9) (N := 11) hx hb hts (by decide +kernel) hown hK hP 0 rfl rfl 1 (by decide) (hts (.fieldLink RX9 7 "RowVeilsModel" "s" "[I") (by decide +kernel)) (fun _ h9 => h9) rfl dX9_set_60 ?_
          refine lv_iconst (v := nI 2) hx hb dX9_set_63 (by decide) ?_
          refine lv_iload_n hx hb dX9_set_64 rfl (lv_at hl 1 rfl) ?_
          refine lv_iadd hx hb dX9_set_65 ?_
          refine asi (z := nI (2 + i)) (nI_add _ _) ?_
          refine va_iald hx hb hK hP 1 0 rfl rfl (vp_in_nI (by omega) (by omega)) dX9_set_66 ?_
          refine asi (z := nI (σ (2 + i))) ((congrArg _ (nI_clamp (by omega))).trans (hM _ (by omega))) ?_
          refine lv_istore_n (lv' := [(3, .int (nI (σ (2 + i)))), (0, .ref (a 0)), (1, .int (nI i)), (2, .int (nI w))]) hx hb dX9_set_67 rfl hl (by decide) rfl (fun ls hl => ?_)
          refine lv_aload_n hx hb dX9_set_68 rfl (lv_at hl 1 rfl) ?_
          refine va_get (D := Γ.1) (ci := 9) (v := .ref (a 1)) (C := RX9) (T := TX9) (N := 11) hx hb hts (by decide +kernel) hown hK hP 0 rfl rfl 1 (by decide) (hts (.fieldLink RX9 7 "RowVeilsModel" "s" "[I") (by decide +kernel)) (fun _ h9 => h9) rfl dX9_set_69 ?_
          refine lv_iconst (v := nI 2) hx hb dX9_set_72 (by decide) ?_
          refine lv_iload_n hx hb dX9_set_73 rfl (lv_at hl 2 rfl) ?_
          refine lv_iadd hx hb dX9_set_74 ?_
          refine asi (z := nI (2 + i)) (nI_add _ _) ?_
          refine lv_iload_n hx hb dX9_set_75 rfl (lv_at hl 3 rfl) ?_
          refine va_iast hx hb hK hP hD hS 1 0 rfl rfl (vp_in_nI (by omega) (by omega)) dX9_set_76 (fun H locs hP hD hS => ?_)
          have ec : (nI (2 + i)).toNatClampNeg = (2 + i) := nI_clamp (by omega)
          rw [ec] at hP hD
          clear ec
          have hP : gP Γ [(a 0, .inr (9, [.int (nI 0), .ref (a 1), .ref (a 2), .int (nI (svC sc)), .ref (a 3), .int (v 2), .int (v 3), .int (v 4), .ref (a 4), .int (v 5), .long hs])), (a 1, .inl (Γ.2.1, 130, .inl (upd (g 0) (2 + i) (nI w)))), (a 2, .inl (Γ.2.1, 780, .inl sv1)), (a 3, .inl (Γ.2.1, 60, .inl (g 2))), (a 4, .inl (Γ.2.1, 88, .inl (g 3)))] H := hP
          have hD : va_D A [(a 0, .inr (9, [.int (nI 0), .ref (a 1), .ref (a 2), .int (nI (svC sc)), .ref (a 3), .int (v 2), .int (v 3), .int (v 4), .ref (a 4), .int (v 5), .long hs])), (a 1, .inl (Γ.2.1, 130, .inl (upd (g 0) (2 + i) (nI w)))), (a 2, .inl (Γ.2.1, 780, .inl sv1)), (a 3, .inl (Γ.2.1, 60, .inl (g 2))), (a 4, .inl (Γ.2.1, 88, .inl (g 3)))] := hD
          refine lv_iload_n hx hb dX9_set_77 rfl (lv_at hl 0 rfl) ?_
          exact W.iret (v := nI (σ (2 + i))) hx hb hrt (fun t9 ht9 hW9 => ⟨⟨_, (va_up (va_up v 0 (nI 0)) 1 (nI (svC sc)), hs, va_up (va_up g 0 (upd (g 0) (2 + i) (nI w))) 1 sv1), rfl, MO.ok (by unfold seC; rw [n_11, if_pos hq2, n_46]; rfl) rfl (by rw [nI_clamp (by omega)]) (by rw [nI_clamp (by omega), nI_clamp (by omega)]; exact (MR.sv (hM.up) (set_I hI (by omega) (by omega) (by omega)) rfl h2 hBR hSV)), wd_end hK hP hD [0, 1, 2, 3, 4] (by decide) rfl t9 ht9 hW9⟩, hS.F ht9⟩) hS.2.2 dX9_set_78 hlk
        · have n_46 := bI_z.mp c_46
          refine lv_aload_n hx hb dX9_set_49 rfl (lv_at hl 0 rfl) ?_
          refine lv_iconst (v := nI 2) hx hb dX9_set_50 (by decide) ?_
          refine cWi (As := [.int (nI 2)]) (rest := []) (wr := []) (m_X9_fails l Γ _ a (va_up v 0 (nI 0)) hs g (nI 2)) S k_X9_fails gX9_set_X9_fails rfl ⟨Nat.le_of_ble_eq_true rfl, Nat.le_of_ble_eq_true rfl⟩ hK hP hD hS hA [0, 1, 2, 3, 4] [] rfl rfl (by decide) (by decide) (by decide) 0 (ci := 9) rfl rfl rfl rfl hl.1 (Nat.le_of_ble_eq_true rfl) rfl dX9_set_51 ⟨Nat.le_of_ble_eq_true rfl, Nat.le_of_ble_eq_true rfl⟩ (fun r u H locs hr hP hD hS => ?_)
          have hP : gP Γ [(a 0, .inr (9, [.int (nI 2), .ref (a 1), .ref (a 2), .int (v 1), .ref (a 3), .int (v 2), .int (v 3), .int (v 4), .ref (a 4), .int (v 5), .long hs])), (a 1, .inl (Γ.2.1, 130, .inl (g 0))), (a 2, .inl (Γ.2.1, 780, .inl (g 1))), (a 3, .inl (Γ.2.1, 60, .inl (g 2))), (a 4, .inl (Γ.2.1, 88, .inl (g 3)))] H := hP
          have hD : va_D A [(a 0, .inr (9, [.int (nI 2), .ref (a 1), .ref (a 2), .int (v 1), .ref (a 3), .int (v 2), .int (v 3), .int (v 4), .ref (a 4), .int (v 5), .long hs])), (a 1, .inl (Γ.2.1, 130, .inl (g 0))), (a 2, .inl (Γ.2.1, 780, .inl (g 1))), (a 3, .inl (Γ.2.1, 60, .inl (g 2))), (a 4, .inl (Γ.2.1, 88, .inl (g 3)))] := hD
          subst hr
          exact W.iret (v := nI 0) hx hb hrt (fun t9 ht9 hW9 => ⟨⟨_, (va_up v 0 (nI 2), hs, g), rfl, MO.bad (k := 1) (by unfold seC; first | (rw [n_11, if_pos hq2, n_46]; rfl)) rfl rfl (hX.th rfl rfl), wd_end hK hP hD [0, 1, 2, 3, 4] (by decide) rfl t9 ht9 hW9⟩, hS.F ht9⟩) hS.2.2 dX9_set_54 hlk
    · have n_22 : ¬ i = 2 := by have := (not_congr (nI_leI (a := 2) (b := i) (by decide) (by omega))).mp c_22; omega
      have hq2 : ¬ nI i = nI 2 := fun h => n_22 ((nI_eq (by omega) (by decide)).mp h)
      refine lv_iload_n hx hb dX9_set_25 rfl (lv_at hl 2 rfl) ?_
      refine lv_iconst (v := nI 1) hx hb dX9_set_26 (by decide) ?_
      refine lv_bipush (v := nI 9) hx hb dX9_set_27 (by decide) ?_
      refine cSi (As := [.int iv, .int (nI 1), .int (nI 9)]) (rest := []) (m_X9_in l iv (nI 1) (nI 9)) S k_X9_in gX9_set_X9_in ⟨Nat.le_of_ble_eq_true rfl, Nat.le_of_ble_eq_true rfl⟩ rfl hl.1 (Nat.le_of_ble_eq_true rfl) rfl dX9_set_29 ⟨Nat.le_of_ble_eq_true rfl, Nat.le_of_ble_eq_true rfl⟩ (fun r hr => ?_)
      subst hr
      refine lv_if_eq (tgt := 49) hx hb dX9_set_32 (by decide) (fun c_32 => ?_) (fun c_32 => ?_)
      · have n_32 := bI_z.mp c_32
        refine lv_aload_n hx hb dX9_set_49 rfl (lv_at hl 0 rfl) ?_
        refine lv_iconst (v := nI 2) hx hb dX9_set_50 (by decide) ?_
        refine cWi (As := [.int (nI 2)]) (rest := []) (wr := []) (m_X9_fails l Γ _ a (va_up v 0 (nI 0)) hs g (nI 2)) S k_X9_fails gX9_set_X9_fails rfl ⟨Nat.le_of_ble_eq_true rfl, Nat.le_of_ble_eq_true rfl⟩ hK hP hD hS hA [0, 1, 2, 3, 4] [] rfl rfl (by decide) (by decide) (by decide) 0 (ci := 9) rfl rfl rfl rfl hl.1 (Nat.le_of_ble_eq_true rfl) rfl dX9_set_51 ⟨Nat.le_of_ble_eq_true rfl, Nat.le_of_ble_eq_true rfl⟩ (fun r u H locs hr hP hD hS => ?_)
        have hP : gP Γ [(a 0, .inr (9, [.int (nI 2), .ref (a 1), .ref (a 2), .int (v 1), .ref (a 3), .int (v 2), .int (v 3), .int (v 4), .ref (a 4), .int (v 5), .long hs])), (a 1, .inl (Γ.2.1, 130, .inl (g 0))), (a 2, .inl (Γ.2.1, 780, .inl (g 1))), (a 3, .inl (Γ.2.1, 60, .inl (g 2))), (a 4, .inl (Γ.2.1, 88, .inl (g 3)))] H := hP
        have hD : va_D A [(a 0, .inr (9, [.int (nI 2), .ref (a 1), .ref (a 2), .int (v 1), .ref (a 3), .int (v 2), .int (v 3), .int (v 4), .ref (a 4), .int (v 5), .long hs])), (a 1, .inl (Γ.2.1, 130, .inl (g 0))), (a 2, .inl (Γ.2.1, 780, .inl (g 1))), (a 3, .inl (Γ.2.1, 60, .inl (g 2))), (a 4, .inl (Γ.2.1, 88, .inl (g 3)))] := hD
        subst hr
        exact W.iret (v := nI 0) hx hb hrt (fun t9 ht9 hW9 => ⟨⟨_, (va_up v 0 (nI 2), hs, g), rfl, MO.bad (k := 1) (by unfold seC; first | (rw [n_11, if_neg hq2, n_32]; rfl)) rfl rfl (hX.th rfl rfl), wd_end hK hP hD [0, 1, 2, 3, 4] (by decide) rfl t9 ht9 hW9⟩, hS.F ht9⟩) hS.2.2 dX9_set_54 hlk
      · have n_32 := bI_nz.mp c_32
        refine lv_iload_n hx hb dX9_set_35 rfl (lv_at hl 1 rfl) ?_
        refine lv_iconst (v := nI 2) hx hb dX9_set_36 (by decide) ?_
        refine lv_icmp_ne (tgt := 55) hx hb dX9_set_37 (by decide) (fun c_37 => ?_) (fun c_37 => ?_)
        · obtain ⟨w, hw1, hw2, rfl⟩ := in_1 (by decide) (by decide) n_32
          refine lv_aload_n hx hb dX9_set_55 rfl (lv_at hl 0 rfl) ?_
          refine cWv (As := []) (rest := []) (wr := []) (m_X9_saves l Γ _ a (va_up v 0 (nI 0)) hs g σ sc ss h1 hc6 hM hI hSR) S k_X9_saves gX9_set_X9_saves rfl ⟨Nat.le_of_ble_eq_true rfl, Nat.le_of_ble_eq_true rfl⟩ hK hP hD hS hA [0, 1, 2, 3, 4] [] rfl rfl (by decide) (by decide) (by decide) 0 (ci := 9) rfl rfl rfl rfl hl.1 (Nat.le_of_ble_eq_true rfl) rfl dX9_set_56 ⟨Nat.le_of_ble_eq_true rfl, Nat.le_of_ble_eq_true rfl⟩ (fun u H locs hr hP hD hS => ?_)
          obtain ⟨sv1, e_sv1⟩ : ∃ x, x = u := ⟨u, rfl⟩
          subst e_sv1
          have hP : gP Γ [(a 0, .inr (9, [.int (nI 0), .ref (a 1), .ref (a 2), .int (nI (svC sc)), .ref (a 3), .int (v 2), .int (v 3), .int (v 4), .ref (a 4), .int (v 5), .long hs])), (a 1, .inl (Γ.2.1, 130, .inl (g 0))), (a 2, .inl (Γ.2.1, 780, .inl sv1)), (a 3, .inl (Γ.2.1, 60, .inl (g 2))), (a 4, .inl (Γ.2.1, 88, .inl (g 3)))] H := hP
          have hD : va_D A [(a 0, .inr (9, [.int (nI 0), .ref (a 1), .ref (a 2), .int (nI (svC sc)), .ref (a 3), .int (v 2), .int (v 3), .int (v 4), .ref (a 4), .int (v 5), .long hs])), (a 1, .inl (Γ.2.1, 130, .inl (g 0))), (a 2, .inl (Γ.2.1, 780, .inl sv1)), (a 3, .inl (Γ.2.1, 60, .inl (g 2))), (a 4, .inl (Γ.2.1, 88, .inl (g 3)))] := hD
          have hSV := hr
          refine lv_aload_n hx hb dX9_set_59 rfl (lv_at hl 0 rfl) ?_
          refine va_get (D := Γ.1) (ci := 9) (v := .ref (a 1)) (C := RX9) (T := TX9) (N := 11) hx hb hts (by decide +kernel) hown hK hP 0 rfl rfl 1 (by decide) (hts (.fieldLink RX9 7 "RowVeilsModel" "s" "[I") (by decide +kernel)) (fun _ h9 => h9) rfl dX9_set_60 ?_
          refine lv_iconst (v := nI 2) hx hb dX9_set_63 (by decide) ?_
          refine lv_iload_n hx hb dX9_set_64 rfl (lv_at hl 1 rfl) ?_
          refine lv_iadd hx hb dX9_set_65 ?_
          refine asi (z := nI (2 + i)) (nI_add _ _) ?_
          refine va_iald hx hb hK hP 1 0 rfl rfl (vp_in_nI (by omega) (by omega)) dX9_set_66 ?_
          refine asi (z := nI (σ (2 + i))) ((congrArg _ (nI_clamp (by omega))).trans (hM _ (by omega))) ?_
          refine lv_istore_n (lv' := [(3, .int (nI (σ (2 + i)))), (0, .ref (a 0)), (1, .int (nI i)), (2, .int (nI w))]) hx hb dX9_set_67 rfl hl (by decide) rfl (fun ls hl => ?_)
          refine lv_aload_n hx hb dX9_set_68 rfl (lv_at hl 1 rfl) ?_
          refine va_get (D := Γ.1) (ci := 9) (v := .ref (a 1)) (C := RX9) (T := TX9) (N := 11) hx hb hts (by decide +kernel) hown hK hP 0 rfl rfl 1 (by decide) (hts (.fieldLink RX9 7 "RowVeilsModel" "s" "[I") (by decide +kernel)) (fun _ h9 => h9) rfl dX9_set_69 ?_
          refine lv_iconst (v := nI 2) hx hb dX9_set_72 (by decide) ?_
          refine lv_iload_n hx hb dX9_set_73 rfl (lv_at hl 2 rfl) ?_
          refine lv_iadd hx hb dX9_set_74 ?_
          refine asi (z := nI (2 + i)) (nI_add _ _) ?_
          refine lv_iload_n hx hb dX9_set_75 rfl (lv_at hl 3 rfl) ?_
          refine va_iast hx hb hK hP hD hS 1 0 rfl rfl (vp_in_nI (by omega) (by omega)) dX9_set_76 (fun H locs hP hD hS => ?_)
          have ec : (nI (2 + i)).toNatClampNeg = (2 + i) := nI_clamp (by omega)
          rw [ec] at hP hD
          clear ec
          have hP : gP Γ [(a 0, .inr (9, [.int (nI 0), .ref (a 1), .ref (a 2), .int (nI (svC sc)), .ref (a 3), .int (v 2), .int (v 3), .int (v 4), .ref (a 4), .int (v 5), .long hs])), (a 1, .inl (Γ.2.1, 130, .inl (upd (g 0) (2 + i) (nI w)))), (a 2, .inl (Γ.2.1, 780, .inl sv1)), (a 3, .inl (Γ.2.1, 60, .inl (g 2))), (a 4, .inl (Γ.2.1, 88, .inl (g 3)))] H := hP
          have hD : va_D A [(a 0, .inr (9, [.int (nI 0), .ref (a 1), .ref (a 2), .int (nI (svC sc)), .ref (a 3), .int (v 2), .int (v 3), .int (v 4), .ref (a 4), .int (v 5), .long hs])), (a 1, .inl (Γ.2.1, 130, .inl (upd (g 0) (2 + i) (nI w)))), (a 2, .inl (Γ.2.1, 780, .inl sv1)), (a 3, .inl (Γ.2.1, 60, .inl (g 2))), (a 4, .inl (Γ.2.1, 88, .inl (g 3)))] := hD
          refine lv_iload_n hx hb dX9_set_77 rfl (lv_at hl 0 rfl) ?_
          exact W.iret (v := nI (σ (2 + i))) hx hb hrt (fun t9 ht9 hW9 => ⟨⟨_, (va_up (va_up v 0 (nI 0)) 1 (nI (svC sc)), hs, va_up (va_up g 0 (upd (g 0) (2 + i) (nI w))) 1 sv1), rfl, MO.ok (by unfold seC; rw [n_11, if_neg hq2, n_32]; rfl) rfl (by rw [nI_clamp (by omega)]) (by rw [nI_clamp (by omega), nI_clamp (by omega)]; exact (MR.sv (hM.up) (set_I hI (by omega) (by omega) (by omega)) rfl h2 hBR hSV)), wd_end hK hP hD [0, 1, 2, 3, 4] (by decide) rfl t9 ht9 hW9⟩, hS.F ht9⟩) hS.2.2 dX9_set_78 hlk
        · exact absurd c_37 hq2
  · have n_11 := bI_z.mp c_11
    refine lv_aload_n hx hb dX9_set_14 rfl (lv_at hl 0 rfl) ?_
    refine lv_iconst (v := nI 1) hx hb dX9_set_15 (by decide) ?_
    refine cWi (As := [.int (nI 1)]) (rest := []) (wr := []) (m_X9_fails l Γ _ a (va_up v 0 (nI 0)) hs g (nI 1)) S k_X9_fails gX9_set_X9_fails rfl ⟨Nat.le_of_ble_eq_true rfl, Nat.le_of_ble_eq_true rfl⟩ hK hP hD hS hA [0, 1, 2, 3, 4] [] rfl rfl (by decide) (by decide) (by decide) 0 (ci := 9) rfl rfl rfl rfl hl.1 (Nat.le_of_ble_eq_true rfl) rfl dX9_set_16 ⟨Nat.le_of_ble_eq_true rfl, Nat.le_of_ble_eq_true rfl⟩ (fun r u H locs hr hP hD hS => ?_)
    have hP : gP Γ [(a 0, .inr (9, [.int (nI 1), .ref (a 1), .ref (a 2), .int (v 1), .ref (a 3), .int (v 2), .int (v 3), .int (v 4), .ref (a 4), .int (v 5), .long hs])), (a 1, .inl (Γ.2.1, 130, .inl (g 0))), (a 2, .inl (Γ.2.1, 780, .inl (g 1))), (a 3, .inl (Γ.2.1, 60, .inl (g 2))), (a 4, .inl (Γ.2.1, 88, .inl (g 3)))] H := hP
    have hD : va_D A [(a 0, .inr (9, [.int (nI 1), .ref (a 1), .ref (a 2), .int (v 1), .ref (a 3), .int (v 2), .int (v 3), .int (v 4), .ref (a 4), .int (v 5), .long hs])), (a 1, .inl (Γ.2.1, 130, .inl (g 0))), (a 2, .inl (Γ.2.1, 780, .inl (g 1))), (a 3, .inl (Γ.2.1, 60, .inl (g 2))), (a 4, .inl (Γ.2.1, 88, .inl (g 3)))] := hD
    subst hr
    exact W.iret (v := nI 0) hx hb hrt (fun t9 ht9 hW9 => ⟨⟨_, (va_up v 0 (nI 1), hs, g), rfl, MO.bad (k := 0) (by unfold seC; first | (rw [n_11]; rfl)) rfl rfl (hX.th rfl rfl), wd_end hK hP hD [0, 1, 2, 3, 4] (by decide) rfl t9 ht9 hW9⟩, hS.F ht9⟩) hS.2.2 dX9_set_19 hlk

abbrev rm_X9_append : Room := { frames := 1, cells := 0, slots := 0, locals := 22 }
theorem k_X9_append : Cal yX9_append wsX9_append rm_X9_append cX9_append 2 (some .int) 1 0 0 := ⟨⟨_, rfl⟩, rfl, rfl, by decide +kernel⟩
set_option maxHeartbeats 4000000 in
set_option maxRecDepth 100000 in
theorem m_X9_append (l : Launch) (Γ : Gm) (sz : Nat) (a : Nat → Nat) (v : Nat → Int32) (hs : Int64) (g : Nat → Nat → Int32) (σ : Nat → Nat) (sc : Nat) (ss : Nat → Nat → Nat) (nb : Nat) (bb : Nat → Nat) (hX : MR σ sc ss nb bb v g) (ic : Int32) : MWi (S := WtM) l yX9_append wsX9_append rm_X9_append Γ sz (wMd Γ a v hs g) [.ref (a 0), .int ic] (fun r u => MO (apC nb ic) r (nI (nb + 1)) (MR σ sc ss (nb + 1) (nup bb nb ic.toNatClampNeg) u.1 u.2.2) (MR σ sc ss nb bb u.1 u.2.2) (u.1 0)) (fun u => (wMd Γ a u.1 u.2.1 u.2.2)) 0 0 := by
  refine mW (cc := cX9_append) (maxL := 2) (ret := (some .int)) (own := RX9) (by decide) rfl rfl (Nat.le_of_ble_eq_true rfl) ?_
  intro p e s m args below meth c S hrt hlk hin hsz hK hP hD hA hS ls hl
  subst hsz
  generalize hAe : va_A (wMd Γ a v hs g) s.heap.size = A at hD hA hS ⊢
  obtain ⟨hx, hb, hml, hown, hts⟩ := id S
  obtain ⟨hM, hI, hc6, h1, h2, hBR, hSR⟩ := id hX
  have hl : lv_has ls 2 [(0, .ref (a 0)), (1, .int ic)] := hl
  have hH : s.heap = s.heap := rfl
  refine lv_aload_n hx hb dX9_append_0 rfl (lv_at hl 0 rfl) ?_
  refine lv_iconst (v := nI 0) hx hb dX9_append_1 (by decide) ?_
  refine va_put (D := Γ.1) (ci := 9) (v := .int (nI 0)) (ty := .int) (C := RX9) (T := TX9) (N := 11) hx hb hts (by decide +kernel) tyX9 tyX9_ok nmX9 hown hK hP hD hS 0 rfl rfl 0 (by decide) (hts (.fieldLink RX9 22 "RowVeilsModel" "thrown" "I") (by decide +kernel)) (fun _ h9 => h9) rfl (by decide +kernel) rfl rfl (Nat.le_of_ble_eq_true rfl) dX9_append_2 (fun H locs hP hD hS => ?_)
  have hP : gP Γ [(a 0, .inr (9, [.int (nI 0), .ref (a 1), .ref (a 2), .int (v 1), .ref (a 3), .int (v 2), .int (v 3), .int (v 4), .ref (a 4), .int (v 5), .long hs])), (a 1, .inl (Γ.2.1, 130, .inl (g 0))), (a 2, .inl (Γ.2.1, 780, .inl (g 1))), (a 3, .inl (Γ.2.1, 60, .inl (g 2))), (a 4, .inl (Γ.2.1, 88, .inl (g 3)))] H := hP
  have hD : va_D A [(a 0, .inr (9, [.int (nI 0), .ref (a 1), .ref (a 2), .int (v 1), .ref (a 3), .int (v 2), .int (v 3), .int (v 4), .ref (a 4), .int (v 5), .long hs])), (a 1, .inl (Γ.2.1, 130, .inl (g 0))), (a 2, .inl (Γ.2.1, 780, .inl (g 1))), (a 3, .inl (Γ.2.1, 60, .inl (g 2))), (a 4, .inl (Γ.2.1, 88, .inl (g 3)))] := hD
  refine lv_iload_n hx hb dX9_append_5 rfl (lv_at hl 1 rfl) ?_
  refine lv_bipush (v := nI 33) hx hb dX9_append_6 (by decide) ?_
  refine lv_bipush (v := nI 126) hx hb dX9_append_8 (by decide) ?_
  refine cSi (As := [.int ic, .int (nI 33), .int (nI 126)]) (rest := []) (m_X9_in l ic (nI 33) (nI 126)) S k_X9_in gX9_append_X9_in ⟨Nat.le_of_ble_eq_true rfl, Nat.le_of_ble_eq_true rfl⟩ rfl hl.1 (Nat.le_of_ble_eq_true rfl) rfl dX9_append_10 ⟨Nat.le_of_ble_eq_true rfl, Nat.le_of_ble_eq_true rfl⟩ (fun r hr => ?_)
  subst hr
  refine lv_if_ne (tgt := 22) hx hb dX9_append_13 (by decide) (fun c_13 => ?_) (fun c_13 => ?_)
  · have n_13 := bI_nz.mp c_13
    obtain ⟨j, hj1, hj2, rfl⟩ := in_1 (by decide) (by decide) n_13
    have hn6 := hBR.1
    refine lv_aload_n hx hb dX9_append_22 rfl (lv_at hl 0 rfl) ?_
    refine va_get (D := Γ.1) (ci := 9) (v := .int (v 2)) (C := RX9) (T := TX9) (N := 11) hx hb hts (by decide +kernel) hown hK hP 0 rfl rfl 5 (by decide) (hts (.fieldLink RX9 117 "RowVeilsModel" "length" "I") (by decide +kernel)) (fun _ h9 => h9) rfl dX9_append_23 ?_
    refine asi (z := nI nb) (h2) ?_
    refine lv_bipush (v := nI 60) hx hb dX9_append_26 (by decide) ?_
    refine lv_icmp_ne (tgt := 37) hx hb dX9_append_28 (by decide) (fun c_28 => ?_) (fun c_28 => ?_)
    · have n_28 := (not_congr (nI_eq (a := nb) (b := 60) (by omega) (by omega))).mp c_28
      refine lv_aload_n hx hb dX9_append_37 rfl (lv_at hl 0 rfl) ?_
      refine va_get (D := Γ.1) (ci := 9) (v := .ref (a 3)) (C := RX9) (T := TX9) (N := 11) hx hb hts (by decide +kernel) hown hK hP 0 rfl rfl 4 (by decide) (hts (.fieldLink RX9 16 "RowVeilsModel" "buffer" "[I") (by decide +kernel)) (fun _ h9 => h9) rfl dX9_append_38 ?_
      refine lv_aload_n hx hb dX9_append_41 rfl (lv_at hl 0 rfl) ?_
      refine va_get (D := Γ.1) (ci := 9) (v := .int (v 2)) (C := RX9) (T := TX9) (N := 11) hx hb hts (by decide +kernel) hown hK hP 0 rfl rfl 5 (by decide) (hts (.fieldLink RX9 117 "RowVeilsModel" "length" "I") (by decide +kernel)) (fun _ h9 => h9) rfl dX9_append_42 ?_
      refine asi (z := nI nb) (h2) ?_
      refine lv_iload_n hx hb dX9_append_45 rfl (lv_at hl 1 rfl) ?_
      refine va_iast hx hb hK hP hD hS 3 0 rfl rfl (vp_in_nI (by omega) (by omega)) dX9_append_46 (fun H locs hP hD hS => ?_)
      have ec : (nI nb).toNatClampNeg = nb := nI_clamp (by omega)
      rw [ec] at hP hD
      clear ec
      have hP : gP Γ [(a 0, .inr (9, [.int (nI 0), .ref (a 1), .ref (a 2), .int (v 1), .ref (a 3), .int (v 2), .int (v 3), .int (v 4), .ref (a 4), .int (v 5), .long hs])), (a 1, .inl (Γ.2.1, 130, .inl (g 0))), (a 2, .inl (Γ.2.1, 780, .inl (g 1))), (a 3, .inl (Γ.2.1, 60, .inl (upd (g 2) nb (nI j)))), (a 4, .inl (Γ.2.1, 88, .inl (g 3)))] H := hP
      have hD : va_D A [(a 0, .inr (9, [.int (nI 0), .ref (a 1), .ref (a 2), .int (v 1), .ref (a 3), .int (v 2), .int (v 3), .int (v 4), .ref (a 4), .int (v 5), .long hs])), (a 1, .inl (Γ.2.1, 130, .inl (g 0))), (a 2, .inl (Γ.2.1, 780, .inl (g 1))), (a 3, .inl (Γ.2.1, 60, .inl (upd (g 2) nb (nI j)))), (a 4, .inl (Γ.2.1, 88, .inl (g 3)))] := hD
      refine lv_aload_n hx hb dX9_append_47 rfl (lv_at hl 0 rfl) ?_
      refine lv_dup hx hb dX9_append_48 rfl ?_
      refine va_get (D := Γ.1) (ci := 9) (v := .int (v 2)) (C := RX9) (T := TX9) (N := 11) hx hb hts (by decide +kernel) hown hK hP 0 rfl rfl 5 (by decide) (hts (.fieldLink RX9 117 "RowVeilsModel" "length" "I") (by decide +kernel)) (fun _ h9 => h9) rfl dX9_append_49 ?_
      refine asi (z := nI nb) (h2) ?_
      refine lv_iconst (v := nI 1) hx hb dX9_append_52 (by decide) ?_
      refine lv_iadd hx hb dX9_append_53 ?_
      refine asi (z := nI (nb + 1)) (nI_add _ _) ?_
      refine va_put (D := Γ.1) (ci := 9) (v := .int (nI (nb + 1))) (ty := .int) (C := RX9) (T := TX9) (N := 11) hx hb hts (by decide +kernel) tyX9 tyX9_ok nmX9 hown hK hP hD hS 0 rfl rfl 5 (by decide) (hts (.fieldLink RX9 117 "RowVeilsModel" "length" "I") (by decide +kernel)) (fun _ h9 => h9) rfl (by decide +kernel) rfl rfl (Nat.le_of_ble_eq_true rfl) dX9_append_54 (fun H locs hP hD hS => ?_)
      have hP : gP Γ [(a 0, .inr (9, [.int (nI 0), .ref (a 1), .ref (a 2), .int (v 1), .ref (a 3), .int (nI (nb + 1)), .int (v 3), .int (v 4), .ref (a 4), .int (v 5), .long hs])), (a 1, .inl (Γ.2.1, 130, .inl (g 0))), (a 2, .inl (Γ.2.1, 780, .inl (g 1))), (a 3, .inl (Γ.2.1, 60, .inl (upd (g 2) nb (nI j)))), (a 4, .inl (Γ.2.1, 88, .inl (g 3)))] H := hP
      have hD : va_D A [(a 0, .inr (9, [.int (nI 0), .ref (a 1), .ref (a 2), .int (v 1), .ref (a 3), .int (nI (nb + 1)), .int (v 3), .int (v 4), .ref (a 4), .int (v 5), .long hs])), (a 1, .inl (Γ.2.1, 130, .inl (g 0))), (a 2, .inl (Γ.2.1, 780, .inl (g 1))), (a 3, .inl (Γ.2.1, 60, .inl (upd (g 2) nb (nI j)))), (a 4, .inl (Γ.2.1, 88, .inl (g 3)))] := hD
      refine lv_aload_n hx hb dX9_append_57 rfl (lv_at hl 0 rfl) ?_
      refine va_get (D := Γ.1) (ci := 9) (v := .int (nI (nb + 1))) (C := RX9) (T := TX9) (N := 11) hx hb hts (by decide +kernel) hown hK hP 0 rfl rfl 5 (by decide) (hts (.fieldLink RX9 117 "RowVeilsModel" "length" "I") (by decide +kernel)) (fun _ h9 => h9) rfl dX9_append_58 ?_
      exact W.iret (v := nI (nb + 1)) hx hb hrt (fun t9 ht9 hW9 => ⟨⟨_, (va_up (va_up v 0 (nI 0)) 2 (nI (nb + 1)), hs, va_up g 2 (upd (g 2) nb (nI j))), rfl, MO.ok (by unfold apC; rw [n_13, if_neg (by decide), if_neg n_28]) rfl rfl (by rw [nI_clamp (by omega)]; exact ⟨hM, hI, hc6, h1, rfl, hBR.push (by omega) hj1 hj2, hSR⟩), wd_end hK hP hD [0, 1, 2, 3, 4] (by decide) rfl t9 ht9 hW9⟩, hS.F ht9⟩) hS.2.2 dX9_append_61 hlk
    · have n_28 := (nI_eq (a := nb) (b := 60) (by omega) (by omega)).mp c_28
      refine lv_aload_n hx hb dX9_append_31 rfl (lv_at hl 0 rfl) ?_
      refine lv_iconst (v := nI 2) hx hb dX9_append_32 (by decide) ?_
      refine cWi (As := [.int (nI 2)]) (rest := []) (wr := []) (m_X9_fails l Γ _ a (va_up v 0 (nI 0)) hs g (nI 2)) S k_X9_fails gX9_append_X9_fails rfl ⟨Nat.le_of_ble_eq_true rfl, Nat.le_of_ble_eq_true rfl⟩ hK hP hD hS hA [0, 1, 2, 3, 4] [] rfl rfl (by decide) (by decide) (by decide) 0 (ci := 9) rfl rfl rfl rfl hl.1 (Nat.le_of_ble_eq_true rfl) rfl dX9_append_33 ⟨Nat.le_of_ble_eq_true rfl, Nat.le_of_ble_eq_true rfl⟩ (fun r u H locs hr hP hD hS => ?_)
      have hP : gP Γ [(a 0, .inr (9, [.int (nI 2), .ref (a 1), .ref (a 2), .int (v 1), .ref (a 3), .int (v 2), .int (v 3), .int (v 4), .ref (a 4), .int (v 5), .long hs])), (a 1, .inl (Γ.2.1, 130, .inl (g 0))), (a 2, .inl (Γ.2.1, 780, .inl (g 1))), (a 3, .inl (Γ.2.1, 60, .inl (g 2))), (a 4, .inl (Γ.2.1, 88, .inl (g 3)))] H := hP
      have hD : va_D A [(a 0, .inr (9, [.int (nI 2), .ref (a 1), .ref (a 2), .int (v 1), .ref (a 3), .int (v 2), .int (v 3), .int (v 4), .ref (a 4), .int (v 5), .long hs])), (a 1, .inl (Γ.2.1, 130, .inl (g 0))), (a 2, .inl (Γ.2.1, 780, .inl (g 1))), (a 3, .inl (Γ.2.1, 60, .inl (g 2))), (a 4, .inl (Γ.2.1, 88, .inl (g 3)))] := hD
      subst hr
      exact W.iret (v := nI 0) hx hb hrt (fun t9 ht9 hW9 => ⟨⟨_, (va_up v 0 (nI 2), hs, g), rfl, MO.bad (k := 1) (by unfold apC; rw [n_13, if_neg (by decide), if_pos n_28]) rfl rfl (hX.th rfl rfl), wd_end hK hP hD [0, 1, 2, 3, 4] (by decide) rfl t9 ht9 hW9⟩, hS.F ht9⟩) hS.2.2 dX9_append_36 hlk
  · have n_13 := bI_z.mp c_13
    refine lv_aload_n hx hb dX9_append_16 rfl (lv_at hl 0 rfl) ?_
    refine lv_iconst (v := nI 1) hx hb dX9_append_17 (by decide) ?_
    refine cWi (As := [.int (nI 1)]) (rest := []) (wr := []) (m_X9_fails l Γ _ a (va_up v 0 (nI 0)) hs g (nI 1)) S k_X9_fails gX9_append_X9_fails rfl ⟨Nat.le_of_ble_eq_true rfl, Nat.le_of_ble_eq_true rfl⟩ hK hP hD hS hA [0, 1, 2, 3, 4] [] rfl rfl (by decide) (by decide) (by decide) 0 (ci := 9) rfl rfl rfl rfl hl.1 (Nat.le_of_ble_eq_true rfl) rfl dX9_append_18 ⟨Nat.le_of_ble_eq_true rfl, Nat.le_of_ble_eq_true rfl⟩ (fun r u H locs hr hP hD hS => ?_)
    have hP : gP Γ [(a 0, .inr (9, [.int (nI 1), .ref (a 1), .ref (a 2), .int (v 1), .ref (a 3), .int (v 2), .int (v 3), .int (v 4), .ref (a 4), .int (v 5), .long hs])), (a 1, .inl (Γ.2.1, 130, .inl (g 0))), (a 2, .inl (Γ.2.1, 780, .inl (g 1))), (a 3, .inl (Γ.2.1, 60, .inl (g 2))), (a 4, .inl (Γ.2.1, 88, .inl (g 3)))] H := hP
    have hD : va_D A [(a 0, .inr (9, [.int (nI 1), .ref (a 1), .ref (a 2), .int (v 1), .ref (a 3), .int (v 2), .int (v 3), .int (v 4), .ref (a 4), .int (v 5), .long hs])), (a 1, .inl (Γ.2.1, 130, .inl (g 0))), (a 2, .inl (Γ.2.1, 780, .inl (g 1))), (a 3, .inl (Γ.2.1, 60, .inl (g 2))), (a 4, .inl (Γ.2.1, 88, .inl (g 3)))] := hD
    subst hr
    exact W.iret (v := nI 0) hx hb hrt (fun t9 ht9 hW9 => ⟨⟨_, (va_up v 0 (nI 1), hs, g), rfl, MO.bad (k := 0) (by unfold apC; first | (rw [n_13]; rfl)) rfl rfl (hX.th rfl rfl), wd_end hK hP hD [0, 1, 2, 3, 4] (by decide) rfl t9 ht9 hW9⟩, hS.F ht9⟩) hS.2.2 dX9_append_21 hlk

abbrev rm_X9_clearBuffer : Room := { frames := 0, cells := 0, slots := 0, locals := 0 }
theorem k_X9_clearBuffer : Cal yX9_clearBuffer wsX9_clearBuffer rm_X9_clearBuffer cX9_clearBuffer 2 (some .int) 0 0 0 := ⟨⟨_, rfl⟩, rfl, rfl, by decide +kernel⟩
set_option maxHeartbeats 4000000 in
set_option maxRecDepth 100000 in
theorem m_X9_clearBuffer (l : Launch) (Γ : Gm) (sz : Nat) (a : Nat → Nat) (v : Nat → Int32) (hs : Int64) (g : Nat → Nat → Int32) (σ : Nat → Nat) (sc : Nat) (ss : Nat → Nat → Nat) (nb : Nat) (bb : Nat → Nat) (hX : MR σ sc ss nb bb v g)  : MWi (S := WtM) l yX9_clearBuffer wsX9_clearBuffer rm_X9_clearBuffer Γ sz (wMd Γ a v hs g) [.ref (a 0)] (fun r u => MO (0) r (nI nb) (MR σ sc ss 0 bb u.1 u.2.2) (MR σ sc ss nb bb u.1 u.2.2) (u.1 0)) (fun u => (wMd Γ a u.1 u.2.1 u.2.2)) 0 0 := by
  refine mW (cc := cX9_clearBuffer) (maxL := 2) (ret := (some .int)) (own := RX9) (by decide) rfl rfl (Nat.le_of_ble_eq_true rfl) ?_
  intro p e s m args below meth c S hrt hlk hin hsz hK hP hD hA hS ls hl
  subst hsz
  generalize hAe : va_A (wMd Γ a v hs g) s.heap.size = A at hD hA hS ⊢
  obtain ⟨hx, hb, hml, hown, hts⟩ := id S
  obtain ⟨hM, hI, hc6, h1, h2, hBR, hSR⟩ := id hX
  have hl : lv_has ls 2 [(0, .ref (a 0))] := hl
  have hH : s.heap = s.heap := rfl
  refine lv_aload_n hx hb dX9_clearBuffer_0 rfl (lv_at hl 0 rfl) ?_
  refine lv_iconst (v := nI 0) hx hb dX9_clearBuffer_1 (by decide) ?_
  refine va_put (D := Γ.1) (ci := 9) (v := .int (nI 0)) (ty := .int) (C := RX9) (T := TX9) (N := 11) hx hb hts (by decide +kernel) tyX9 tyX9_ok nmX9 hown hK hP hD hS 0 rfl rfl 0 (by decide) (hts (.fieldLink RX9 22 "RowVeilsModel" "thrown" "I") (by decide +kernel)) (fun _ h9 => h9) rfl (by decide +kernel) rfl rfl (Nat.le_of_ble_eq_true rfl) dX9_clearBuffer_2 (fun H locs hP hD hS => ?_)
  have hP : gP Γ [(a 0, .inr (9, [.int (nI 0), .ref (a 1), .ref (a 2), .int (v 1), .ref (a 3), .int (v 2), .int (v 3), .int (v 4), .ref (a 4), .int (v 5), .long hs])), (a 1, .inl (Γ.2.1, 130, .inl (g 0))), (a 2, .inl (Γ.2.1, 780, .inl (g 1))), (a 3, .inl (Γ.2.1, 60, .inl (g 2))), (a 4, .inl (Γ.2.1, 88, .inl (g 3)))] H := hP
  have hD : va_D A [(a 0, .inr (9, [.int (nI 0), .ref (a 1), .ref (a 2), .int (v 1), .ref (a 3), .int (v 2), .int (v 3), .int (v 4), .ref (a 4), .int (v 5), .long hs])), (a 1, .inl (Γ.2.1, 130, .inl (g 0))), (a 2, .inl (Γ.2.1, 780, .inl (g 1))), (a 3, .inl (Γ.2.1, 60, .inl (g 2))), (a 4, .inl (Γ.2.1, 88, .inl (g 3)))] := hD
  refine lv_aload_n hx hb dX9_clearBuffer_5 rfl (lv_at hl 0 rfl) ?_
  refine va_get (D := Γ.1) (ci := 9) (v := .int (v 2)) (C := RX9) (T := TX9) (N := 11) hx hb hts (by decide +kernel) hown hK hP 0 rfl rfl 5 (by decide) (hts (.fieldLink RX9 117 "RowVeilsModel" "length" "I") (by decide +kernel)) (fun _ h9 => h9) rfl dX9_clearBuffer_6 ?_
  refine asi (z := nI nb) (h2) ?_
  refine lv_istore_n (lv' := [(1, .int (nI nb)), (0, .ref (a 0))]) hx hb dX9_clearBuffer_9 rfl hl (by decide) rfl (fun ls hl => ?_)
  refine lv_aload_n hx hb dX9_clearBuffer_10 rfl (lv_at hl 1 rfl) ?_
  refine lv_iconst (v := nI 0) hx hb dX9_clearBuffer_11 (by decide) ?_
  refine va_put (D := Γ.1) (ci := 9) (v := .int (nI 0)) (ty := .int) (C := RX9) (T := TX9) (N := 11) hx hb hts (by decide +kernel) tyX9 tyX9_ok nmX9 hown hK hP hD hS 0 rfl rfl 5 (by decide) (hts (.fieldLink RX9 117 "RowVeilsModel" "length" "I") (by decide +kernel)) (fun _ h9 => h9) rfl (by decide +kernel) rfl rfl (Nat.le_of_ble_eq_true rfl) dX9_clearBuffer_12 (fun H locs hP hD hS => ?_)
  have hP : gP Γ [(a 0, .inr (9, [.int (nI 0), .ref (a 1), .ref (a 2), .int (v 1), .ref (a 3), .int (nI 0), .int (v 3), .int (v 4), .ref (a 4), .int (v 5), .long hs])), (a 1, .inl (Γ.2.1, 130, .inl (g 0))), (a 2, .inl (Γ.2.1, 780, .inl (g 1))), (a 3, .inl (Γ.2.1, 60, .inl (g 2))), (a 4, .inl (Γ.2.1, 88, .inl (g 3)))] H := hP
  have hD : va_D A [(a 0, .inr (9, [.int (nI 0), .ref (a 1), .ref (a 2), .int (v 1), .ref (a 3), .int (nI 0), .int (v 3), .int (v 4), .ref (a 4), .int (v 5), .long hs])), (a 1, .inl (Γ.2.1, 130, .inl (g 0))), (a 2, .inl (Γ.2.1, 780, .inl (g 1))), (a 3, .inl (Γ.2.1, 60, .inl (g 2))), (a 4, .inl (Γ.2.1, 88, .inl (g 3)))] := hD
  refine lv_iload_n hx hb dX9_clearBuffer_15 rfl (lv_at hl 0 rfl) ?_
  exact W.iret (v := nI nb) hx hb hrt (fun t9 ht9 hW9 => ⟨⟨_, (va_up (va_up v 0 (nI 0)) 2 (nI 0), hs, g), rfl, MO.ok rfl rfl rfl ⟨hM, hI, hc6, h1, rfl, ⟨by omega, fun i hi => absurd hi (Nat.not_lt_zero i)⟩, hSR⟩, wd_end hK hP hD [0, 1, 2, 3, 4] (by decide) rfl t9 ht9 hW9⟩, hS.F ht9⟩) hS.2.2 dX9_clearBuffer_16 hlk

