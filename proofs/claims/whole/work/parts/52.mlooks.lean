/-! The reference's looks. -/
abbrev rm_X9_rowOf : Room := { frames := 7, cells := 0, slots := 0, locals := 160 }
theorem k_X9_rowOf : Cal yX9_rowOf wsX9_rowOf rm_X9_rowOf cX9_rowOf 3 (some .int) 2 0 0 := ⟨⟨_, rfl⟩, rfl, rfl, by decide +kernel⟩
set_option maxHeartbeats 4000000 in
set_option maxRecDepth 100000 in
theorem m_X9_rowOf (l : Launch) (Γ : Gm) (sz : Nat) (a : Nat → Nat) (v : Nat → Int32) (hs : Int64) (g : Nat → Nat → Int32) (σ : Nat → Nat) (sc : Nat) (ss : Nat → Nat → Nat) (nb : Nat) (bb : Nat → Nat) (hX : MR σ sc ss nb bb v g) (ix iw : Int32) : MWi (S := WtM) l yX9_rowOf wsX9_rowOf rm_X9_rowOf Γ sz (wMd Γ a v hs g) [.ref (a 0), .int ix, .int iw] (fun r u => MO (rwC σ ix iw) r (nI (rowN σ ix.toNatClampNeg iw.toNatClampNeg)) (MR σ sc ss nb bb u.1 u.2.2) (MR σ sc ss nb bb u.1 u.2.2) (u.1 0)) (fun u => (wMd Γ a u.1 u.2.1 u.2.2)) 0 0 := by
  refine mW (cc := cX9_rowOf) (maxL := 3) (ret := (some .int)) (own := RX9) (by decide) rfl rfl (Nat.le_of_ble_eq_true rfl) ?_
  intro p e s m args below meth c S hrt hlk hin hsz hK hP hD hA hS ls hl
  subst hsz
  generalize hAe : va_A (wMd Γ a v hs g) s.heap.size = A at hD hA hS ⊢
  obtain ⟨hx, hb, hml, hown, hts⟩ := id S
  obtain ⟨hM, hI, hc6, h1, h2, hBR, hSR⟩ := id hX
  have hl : lv_has ls 3 [(0, .ref (a 0)), (1, .int ix), (2, .int iw)] := hl
  have hH : s.heap = s.heap := rfl
  refine lv_aload_n hx hb dX9_rowOf_0 rfl (lv_at hl 0 rfl) ?_
  refine lv_iconst (v := nI 0) hx hb dX9_rowOf_1 (by decide) ?_
  refine va_put (D := Γ.1) (ci := 9) (v := .int (nI 0)) (ty := .int) (C := RX9) (T := TX9) (N := 11) hx hb hts (by decide +kernel) tyX9 tyX9_ok nmX9 hown hK hP hD hS 0 rfl rfl 0 (by decide) (hts (.fieldLink RX9 22 "RowVeilsModel" "thrown" "I") (by decide +kernel)) (fun _ h9 => h9) rfl (by decide +kernel) rfl rfl (Nat.le_of_ble_eq_true rfl) dX9_rowOf_2 (fun H locs hP hD hS => ?_)
  have hP : gP Γ [(a 0, .inr (9, [.int (nI 0), .ref (a 1), .ref (a 2), .int (v 1), .ref (a 3), .int (v 2), .int (v 3), .int (v 4), .ref (a 4), .int (v 5), .long hs])), (a 1, .inl (Γ.2.1, 130, .inl (g 0))), (a 2, .inl (Γ.2.1, 780, .inl (g 1))), (a 3, .inl (Γ.2.1, 60, .inl (g 2))), (a 4, .inl (Γ.2.1, 88, .inl (g 3)))] H := hP
  have hD : va_D A [(a 0, .inr (9, [.int (nI 0), .ref (a 1), .ref (a 2), .int (v 1), .ref (a 3), .int (v 2), .int (v 3), .int (v 4), .ref (a 4), .int (v 5), .long hs])), (a 1, .inl (Γ.2.1, 130, .inl (g 0))), (a 2, .inl (Γ.2.1, 780, .inl (g 1))), (a 3, .inl (Γ.2.1, 60, .inl (g 2))), (a 4, .inl (Γ.2.1, 88, .inl (g 3)))] := hD
  refine lv_aload_n hx hb dX9_rowOf_5 rfl (lv_at hl 0 rfl) ?_
  refine lv_iload_n hx hb dX9_rowOf_6 rfl (lv_at hl 1 rfl) ?_
  refine cRi (As := [.int ix]) (rest := []) (m_X9_isRow l Γ a (va_up v 0 (nI 0)) hs g σ hM hI ix) S k_X9_isRow gX9_rowOf_X9_isRow rfl ⟨Nat.le_of_ble_eq_true rfl, Nat.le_of_ble_eq_true rfl⟩ hK hP [0, 1, 2, 3, 4] rfl 0 (ci := 9) rfl rfl rfl rfl hl.1 (Nat.le_of_ble_eq_true rfl) rfl dX9_rowOf_7 ⟨Nat.le_of_ble_eq_true rfl, Nat.le_of_ble_eq_true rfl⟩ (fun r hr => ?_)
  subst hr
  refine lv_if_ne (tgt := 19) hx hb dX9_rowOf_10 (by decide) (fun c_10 => ?_) (fun c_10 => ?_)
  · have n_10 := bI_nz.mp c_10
    refine lv_iload_n hx hb dX9_rowOf_19 rfl (lv_at hl 2 rfl) ?_
    refine lv_iconst (v := nI 0) hx hb dX9_rowOf_20 (by decide) ?_
    refine lv_iconst (v := nI 4) hx hb dX9_rowOf_21 (by decide) ?_
    refine cSi (As := [.int iw, .int (nI 0), .int (nI 4)]) (rest := []) (m_X9_in l iw (nI 0) (nI 4)) S k_X9_in gX9_rowOf_X9_in ⟨Nat.le_of_ble_eq_true rfl, Nat.le_of_ble_eq_true rfl⟩ rfl hl.1 (Nat.le_of_ble_eq_true rfl) rfl dX9_rowOf_22 ⟨Nat.le_of_ble_eq_true rfl, Nat.le_of_ble_eq_true rfl⟩ (fun r hr => ?_)
    subst hr
    refine lv_if_eq (tgt := 37) hx hb dX9_rowOf_25 (by decide) (fun c_25 => ?_) (fun c_25 => ?_)
    · have n_25 := bI_z.mp c_25
      refine lv_aload_n hx hb dX9_rowOf_37 rfl (lv_at hl 0 rfl) ?_
      refine lv_iconst (v := nI 2) hx hb dX9_rowOf_38 (by decide) ?_
      refine cWi (As := [.int (nI 2)]) (rest := []) (wr := []) (m_X9_fails l Γ _ a (va_up v 0 (nI 0)) hs g (nI 2)) S k_X9_fails gX9_rowOf_X9_fails rfl ⟨Nat.le_of_ble_eq_true rfl, Nat.le_of_ble_eq_true rfl⟩ hK hP hD hS hA [0, 1, 2, 3, 4] [] rfl rfl (by decide) (by decide) (by decide) 0 (ci := 9) rfl rfl rfl rfl hl.1 (Nat.le_of_ble_eq_true rfl) rfl dX9_rowOf_39 ⟨Nat.le_of_ble_eq_true rfl, Nat.le_of_ble_eq_true rfl⟩ (fun r u H locs hr hP hD hS => ?_)
      have hP : gP Γ [(a 0, .inr (9, [.int (nI 2), .ref (a 1), .ref (a 2), .int (v 1), .ref (a 3), .int (v 2), .int (v 3), .int (v 4), .ref (a 4), .int (v 5), .long hs])), (a 1, .inl (Γ.2.1, 130, .inl (g 0))), (a 2, .inl (Γ.2.1, 780, .inl (g 1))), (a 3, .inl (Γ.2.1, 60, .inl (g 2))), (a 4, .inl (Γ.2.1, 88, .inl (g 3)))] H := hP
      have hD : va_D A [(a 0, .inr (9, [.int (nI 2), .ref (a 1), .ref (a 2), .int (v 1), .ref (a 3), .int (v 2), .int (v 3), .int (v 4), .ref (a 4), .int (v 5), .long hs])), (a 1, .inl (Γ.2.1, 130, .inl (g 0))), (a 2, .inl (Γ.2.1, 780, .inl (g 1))), (a 3, .inl (Γ.2.1, 60, .inl (g 2))), (a 4, .inl (Γ.2.1, 88, .inl (g 3)))] := hD
      subst hr
      exact W.iret (v := nI 0) hx hb hrt (fun t9 ht9 hW9 => ⟨⟨_, (va_up v 0 (nI 2), hs, g), rfl, MO.bad (k := 1) (by unfold rwC; first | (rw [n_10, n_25]; rfl)) rfl rfl (hX.th rfl rfl), wd_end hK hP hD [0, 1, 2, 3, 4] (by decide) rfl t9 ht9 hW9⟩, hS.F ht9⟩) hS.2.2 dX9_rowOf_42 hlk
    · have n_25 := bI_nz.mp c_25
      obtain ⟨q, hq0, rfl⟩ := in_row hI.n n_10
      obtain ⟨w, h_w, rfl⟩ := in_lt (by decide) n_25
      have hn := hI.n
      refine lv_aload_n hx hb dX9_rowOf_28 rfl (lv_at hl 0 rfl) ?_
      refine lv_iload_n hx hb dX9_rowOf_29 rfl (lv_at hl 1 rfl) ?_
      refine lv_iload_n hx hb dX9_rowOf_30 rfl (lv_at hl 2 rfl) ?_
      refine cRi (As := [.int (nI q), .int (nI w)]) (rest := []) (m_X9_tellsRow l Γ a (va_up v 0 (nI 0)) hs g σ hM hI q w hq0 (by omega)) S k_X9_tellsRow gX9_rowOf_X9_tellsRow rfl ⟨Nat.le_of_ble_eq_true rfl, Nat.le_of_ble_eq_true rfl⟩ hK hP [0, 1, 2, 3, 4] rfl 0 (ci := 9) rfl rfl rfl rfl hl.1 (Nat.le_of_ble_eq_true rfl) rfl dX9_rowOf_31 ⟨Nat.le_of_ble_eq_true rfl, Nat.le_of_ble_eq_true rfl⟩ (fun r hr => ?_)
      subst hr
      refine lv_goto (tgt := 42) hx hb dX9_rowOf_34 (by decide) ?_
      exact W.iret (v := nI (rowN σ q w)) hx hb hrt (fun t9 ht9 hW9 => ⟨⟨_, (va_up v 0 (nI 0), hs, g), rfl, MO.ok (by unfold rwC; rw [n_10, n_25]; rfl) rfl (by rw [nI_clamp (by omega), nI_clamp (by omega)]) (hX.th rfl rfl), wd_end hK hP hD [0, 1, 2, 3, 4] (by decide) rfl t9 ht9 hW9⟩, hS.F ht9⟩) hS.2.2 dX9_rowOf_42 hlk
  · have n_10 := bI_z.mp c_10
    refine lv_aload_n hx hb dX9_rowOf_13 rfl (lv_at hl 0 rfl) ?_
    refine lv_iconst (v := nI 1) hx hb dX9_rowOf_14 (by decide) ?_
    refine cWi (As := [.int (nI 1)]) (rest := []) (wr := []) (m_X9_fails l Γ _ a (va_up v 0 (nI 0)) hs g (nI 1)) S k_X9_fails gX9_rowOf_X9_fails rfl ⟨Nat.le_of_ble_eq_true rfl, Nat.le_of_ble_eq_true rfl⟩ hK hP hD hS hA [0, 1, 2, 3, 4] [] rfl rfl (by decide) (by decide) (by decide) 0 (ci := 9) rfl rfl rfl rfl hl.1 (Nat.le_of_ble_eq_true rfl) rfl dX9_rowOf_15 ⟨Nat.le_of_ble_eq_true rfl, Nat.le_of_ble_eq_true rfl⟩ (fun r u H locs hr hP hD hS => ?_)
    have hP : gP Γ [(a 0, .inr (9, [.int (nI 1), .ref (a 1), .ref (a 2), .int (v 1), .ref (a 3), .int (v 2), .int (v 3), .int (v 4), .ref (a 4), .int (v 5), .long hs])), (a 1, .inl (Γ.2.1, 130, .inl (g 0))), (a 2, .inl (Γ.2.1, 780, .inl (g 1))), (a 3, .inl (Γ.2.1, 60, .inl (g 2))), (a 4, .inl (Γ.2.1, 88, .inl (g 3)))] H := hP
    have hD : va_D A [(a 0, .inr (9, [.int (nI 1), .ref (a 1), .ref (a 2), .int (v 1), .ref (a 3), .int (v 2), .int (v 3), .int (v 4), .ref (a 4), .int (v 5), .long hs])), (a 1, .inl (Γ.2.1, 130, .inl (g 0))), (a 2, .inl (Γ.2.1, 780, .inl (g 1))), (a 3, .inl (Γ.2.1, 60, .inl (g 2))), (a 4, .inl (Γ.2.1, 88, .inl (g 3)))] := hD
    subst hr
    exact W.iret (v := nI 0) hx hb hrt (fun t9 ht9 hW9 => ⟨⟨_, (va_up v 0 (nI 1), hs, g), rfl, MO.bad (k := 0) (by unfold rwC; first | (rw [n_10]; rfl)) rfl rfl (hX.th rfl rfl), wd_end hK hP hD [0, 1, 2, 3, 4] (by decide) rfl t9 ht9 hW9⟩, hS.F ht9⟩) hS.2.2 dX9_rowOf_18 hlk

abbrev rm_X9_personOf : Room := { frames := 7, cells := 0, slots := 0, locals := 160 }
theorem k_X9_personOf : Cal yX9_personOf wsX9_personOf rm_X9_personOf cX9_personOf 3 (some .int) 2 0 0 := ⟨⟨_, rfl⟩, rfl, rfl, by decide +kernel⟩
set_option maxHeartbeats 4000000 in
set_option maxRecDepth 100000 in
theorem m_X9_personOf (l : Launch) (Γ : Gm) (sz : Nat) (a : Nat → Nat) (v : Nat → Int32) (hs : Int64) (g : Nat → Nat → Int32) (σ : Nat → Nat) (sc : Nat) (ss : Nat → Nat → Nat) (nb : Nat) (bb : Nat → Nat) (hX : MR σ sc ss nb bb v g) (ip iw : Int32) : MWi (S := WtM) l yX9_personOf wsX9_personOf rm_X9_personOf Γ sz (wMd Γ a v hs g) [.ref (a 0), .int ip, .int iw] (fun r u => MO (peC ip iw) r (perN σ ip.toNatClampNeg iw.toNatClampNeg) (MR σ sc ss nb bb u.1 u.2.2) (MR σ sc ss nb bb u.1 u.2.2) (u.1 0)) (fun u => (wMd Γ a u.1 u.2.1 u.2.2)) 0 0 := by
  refine mW (cc := cX9_personOf) (maxL := 3) (ret := (some .int)) (own := RX9) (by decide) rfl rfl (Nat.le_of_ble_eq_true rfl) ?_
  intro p e s m args below meth c S hrt hlk hin hsz hK hP hD hA hS ls hl
  subst hsz
  generalize hAe : va_A (wMd Γ a v hs g) s.heap.size = A at hD hA hS ⊢
  obtain ⟨hx, hb, hml, hown, hts⟩ := id S
  obtain ⟨hM, hI, hc6, h1, h2, hBR, hSR⟩ := id hX
  have hl : lv_has ls 3 [(0, .ref (a 0)), (1, .int ip), (2, .int iw)] := hl
  have hH : s.heap = s.heap := rfl
  refine lv_aload_n hx hb dX9_personOf_0 rfl (lv_at hl 0 rfl) ?_
  refine lv_iconst (v := nI 0) hx hb dX9_personOf_1 (by decide) ?_
  refine va_put (D := Γ.1) (ci := 9) (v := .int (nI 0)) (ty := .int) (C := RX9) (T := TX9) (N := 11) hx hb hts (by decide +kernel) tyX9 tyX9_ok nmX9 hown hK hP hD hS 0 rfl rfl 0 (by decide) (hts (.fieldLink RX9 22 "RowVeilsModel" "thrown" "I") (by decide +kernel)) (fun _ h9 => h9) rfl (by decide +kernel) rfl rfl (Nat.le_of_ble_eq_true rfl) dX9_personOf_2 (fun H locs hP hD hS => ?_)
  have hP : gP Γ [(a 0, .inr (9, [.int (nI 0), .ref (a 1), .ref (a 2), .int (v 1), .ref (a 3), .int (v 2), .int (v 3), .int (v 4), .ref (a 4), .int (v 5), .long hs])), (a 1, .inl (Γ.2.1, 130, .inl (g 0))), (a 2, .inl (Γ.2.1, 780, .inl (g 1))), (a 3, .inl (Γ.2.1, 60, .inl (g 2))), (a 4, .inl (Γ.2.1, 88, .inl (g 3)))] H := hP
  have hD : va_D A [(a 0, .inr (9, [.int (nI 0), .ref (a 1), .ref (a 2), .int (v 1), .ref (a 3), .int (v 2), .int (v 3), .int (v 4), .ref (a 4), .int (v 5), .long hs])), (a 1, .inl (Γ.2.1, 130, .inl (g 0))), (a 2, .inl (Γ.2.1, 780, .inl (g 1))), (a 3, .inl (Γ.2.1, 60, .inl (g 2))), (a 4, .inl (Γ.2.1, 88, .inl (g 3)))] := hD
  refine lv_iload_n hx hb dX9_personOf_5 rfl (lv_at hl 1 rfl) ?_
  refine cSi (As := [.int ip]) (rest := []) (m_X9_isPerson l ip) S k_X9_isPerson gX9_personOf_X9_isPerson ⟨Nat.le_of_ble_eq_true rfl, Nat.le_of_ble_eq_true rfl⟩ rfl hl.1 (Nat.le_of_ble_eq_true rfl) rfl dX9_personOf_6 ⟨Nat.le_of_ble_eq_true rfl, Nat.le_of_ble_eq_true rfl⟩ (fun r hr => ?_)
  subst hr
  refine lv_if_ne (tgt := 18) hx hb dX9_personOf_9 (by decide) (fun c_9 => ?_) (fun c_9 => ?_)
  · have n_9 := bI_nz.mp c_9
    refine lv_iload_n hx hb dX9_personOf_18 rfl (lv_at hl 2 rfl) ?_
    refine lv_iconst (v := nI 0) hx hb dX9_personOf_19 (by decide) ?_
    refine lv_bipush (v := nI 7) hx hb dX9_personOf_20 (by decide) ?_
    refine cSi (As := [.int iw, .int (nI 0), .int (nI 7)]) (rest := []) (m_X9_in l iw (nI 0) (nI 7)) S k_X9_in gX9_personOf_X9_in ⟨Nat.le_of_ble_eq_true rfl, Nat.le_of_ble_eq_true rfl⟩ rfl hl.1 (Nat.le_of_ble_eq_true rfl) rfl dX9_personOf_22 ⟨Nat.le_of_ble_eq_true rfl, Nat.le_of_ble_eq_true rfl⟩ (fun r hr => ?_)
    subst hr
    refine lv_if_eq (tgt := 37) hx hb dX9_personOf_25 (by decide) (fun c_25 => ?_) (fun c_25 => ?_)
    · have n_25 := bI_z.mp c_25
      refine lv_aload_n hx hb dX9_personOf_37 rfl (lv_at hl 0 rfl) ?_
      refine lv_iconst (v := nI 2) hx hb dX9_personOf_38 (by decide) ?_
      refine cWi (As := [.int (nI 2)]) (rest := []) (wr := []) (m_X9_fails l Γ _ a (va_up v 0 (nI 0)) hs g (nI 2)) S k_X9_fails gX9_personOf_X9_fails rfl ⟨Nat.le_of_ble_eq_true rfl, Nat.le_of_ble_eq_true rfl⟩ hK hP hD hS hA [0, 1, 2, 3, 4] [] rfl rfl (by decide) (by decide) (by decide) 0 (ci := 9) rfl rfl rfl rfl hl.1 (Nat.le_of_ble_eq_true rfl) rfl dX9_personOf_39 ⟨Nat.le_of_ble_eq_true rfl, Nat.le_of_ble_eq_true rfl⟩ (fun r u H locs hr hP hD hS => ?_)
      have hP : gP Γ [(a 0, .inr (9, [.int (nI 2), .ref (a 1), .ref (a 2), .int (v 1), .ref (a 3), .int (v 2), .int (v 3), .int (v 4), .ref (a 4), .int (v 5), .long hs])), (a 1, .inl (Γ.2.1, 130, .inl (g 0))), (a 2, .inl (Γ.2.1, 780, .inl (g 1))), (a 3, .inl (Γ.2.1, 60, .inl (g 2))), (a 4, .inl (Γ.2.1, 88, .inl (g 3)))] H := hP
      have hD : va_D A [(a 0, .inr (9, [.int (nI 2), .ref (a 1), .ref (a 2), .int (v 1), .ref (a 3), .int (v 2), .int (v 3), .int (v 4), .ref (a 4), .int (v 5), .long hs])), (a 1, .inl (Γ.2.1, 130, .inl (g 0))), (a 2, .inl (Γ.2.1, 780, .inl (g 1))), (a 3, .inl (Γ.2.1, 60, .inl (g 2))), (a 4, .inl (Γ.2.1, 88, .inl (g 3)))] := hD
      subst hr
      exact W.iret (v := nI 0) hx hb hrt (fun t9 ht9 hW9 => ⟨⟨_, (va_up v 0 (nI 2), hs, g), rfl, MO.bad (k := 1) (by unfold peC; first | (rw [n_9, n_25]; rfl)) rfl rfl (hX.th rfl rfl), wd_end hK hP hD [0, 1, 2, 3, 4] (by decide) rfl t9 ht9 hW9⟩, hS.F ht9⟩) hS.2.2 dX9_personOf_42 hlk
    · have n_25 := bI_nz.mp c_25
      obtain ⟨p0, h_p0, rfl⟩ := in_lt (by decide) n_9
      have hp : p0 < 5 := by omega
      obtain ⟨w, h_w, rfl⟩ := in_lt (by decide) n_25
      refine lv_aload_n hx hb dX9_personOf_28 rfl (lv_at hl 0 rfl) ?_
      refine lv_iload_n hx hb dX9_personOf_29 rfl (lv_at hl 1 rfl) ?_
      refine lv_iload_n hx hb dX9_personOf_30 rfl (lv_at hl 2 rfl) ?_
      refine cRi (As := [.int (nI p0), .int (nI w)]) (rest := []) (m_X9_tellsPerson l Γ a (va_up v 0 (nI 0)) hs g σ hM hI p0 w hp (by omega)) S k_X9_tellsPerson gX9_personOf_X9_tellsPerson rfl ⟨Nat.le_of_ble_eq_true rfl, Nat.le_of_ble_eq_true rfl⟩ hK hP [0, 1, 2, 3, 4] rfl 0 (ci := 9) rfl rfl rfl rfl hl.1 (Nat.le_of_ble_eq_true rfl) rfl dX9_personOf_31 ⟨Nat.le_of_ble_eq_true rfl, Nat.le_of_ble_eq_true rfl⟩ (fun r hr => ?_)
      subst hr
      refine lv_goto (tgt := 42) hx hb dX9_personOf_34 (by decide) ?_
      exact W.iret (v := perN σ p0 w) hx hb hrt (fun t9 ht9 hW9 => ⟨⟨_, (va_up v 0 (nI 0), hs, g), rfl, MO.ok (by unfold peC; rw [n_9, n_25]; rfl) rfl (by rw [nI_clamp (by omega), nI_clamp (by omega)]) (hX.th rfl rfl), wd_end hK hP hD [0, 1, 2, 3, 4] (by decide) rfl t9 ht9 hW9⟩, hS.F ht9⟩) hS.2.2 dX9_personOf_42 hlk
  · have n_9 := bI_z.mp c_9
    refine lv_aload_n hx hb dX9_personOf_12 rfl (lv_at hl 0 rfl) ?_
    refine lv_iconst (v := nI 1) hx hb dX9_personOf_13 (by decide) ?_
    refine cWi (As := [.int (nI 1)]) (rest := []) (wr := []) (m_X9_fails l Γ _ a (va_up v 0 (nI 0)) hs g (nI 1)) S k_X9_fails gX9_personOf_X9_fails rfl ⟨Nat.le_of_ble_eq_true rfl, Nat.le_of_ble_eq_true rfl⟩ hK hP hD hS hA [0, 1, 2, 3, 4] [] rfl rfl (by decide) (by decide) (by decide) 0 (ci := 9) rfl rfl rfl rfl hl.1 (Nat.le_of_ble_eq_true rfl) rfl dX9_personOf_14 ⟨Nat.le_of_ble_eq_true rfl, Nat.le_of_ble_eq_true rfl⟩ (fun r u H locs hr hP hD hS => ?_)
    have hP : gP Γ [(a 0, .inr (9, [.int (nI 1), .ref (a 1), .ref (a 2), .int (v 1), .ref (a 3), .int (v 2), .int (v 3), .int (v 4), .ref (a 4), .int (v 5), .long hs])), (a 1, .inl (Γ.2.1, 130, .inl (g 0))), (a 2, .inl (Γ.2.1, 780, .inl (g 1))), (a 3, .inl (Γ.2.1, 60, .inl (g 2))), (a 4, .inl (Γ.2.1, 88, .inl (g 3)))] H := hP
    have hD : va_D A [(a 0, .inr (9, [.int (nI 1), .ref (a 1), .ref (a 2), .int (v 1), .ref (a 3), .int (v 2), .int (v 3), .int (v 4), .ref (a 4), .int (v 5), .long hs])), (a 1, .inl (Γ.2.1, 130, .inl (g 0))), (a 2, .inl (Γ.2.1, 780, .inl (g 1))), (a 3, .inl (Γ.2.1, 60, .inl (g 2))), (a 4, .inl (Γ.2.1, 88, .inl (g 3)))] := hD
    subst hr
    exact W.iret (v := nI 0) hx hb hrt (fun t9 ht9 hW9 => ⟨⟨_, (va_up v 0 (nI 1), hs, g), rfl, MO.bad (k := 0) (by unfold peC; first | (rw [n_9]; rfl)) rfl rfl (hX.th rfl rfl), wd_end hK hP hD [0, 1, 2, 3, 4] (by decide) rfl t9 ht9 hW9⟩, hS.F ht9⟩) hS.2.2 dX9_personOf_17 hlk

abbrev rm_X9_veils : Room := { frames := 5, cells := 0, slots := 0, locals := 115 }
theorem k_X9_veils : Cal yX9_veils wsX9_veils rm_X9_veils cX9_veils 3 (some .int) 2 0 0 := ⟨⟨_, rfl⟩, rfl, rfl, by decide +kernel⟩
set_option maxHeartbeats 4000000 in
set_option maxRecDepth 100000 in
theorem m_X9_veils (l : Launch) (Γ : Gm) (sz : Nat) (a : Nat → Nat) (v : Nat → Int32) (hs : Int64) (g : Nat → Nat → Int32) (σ : Nat → Nat) (sc : Nat) (ss : Nat → Nat → Nat) (nb : Nat) (bb : Nat → Nat) (hX : MR σ sc ss nb bb v g) (ip ix : Int32) : MWi (S := WtM) l yX9_veils wsX9_veils rm_X9_veils Γ sz (wMd Γ a v hs g) [.ref (a 0), .int ip, .int ix] (fun r u => MO (veC σ ip ix) r (nI (vmk σ ip.toNatClampNeg ix.toNatClampNeg)) (MR σ sc ss nb bb u.1 u.2.2) (MR σ sc ss nb bb u.1 u.2.2) (u.1 0)) (fun u => (wMd Γ a u.1 u.2.1 u.2.2)) 0 0 := by
  refine mW (cc := cX9_veils) (maxL := 3) (ret := (some .int)) (own := RX9) (by decide) rfl rfl (Nat.le_of_ble_eq_true rfl) ?_
  intro p e s m args below meth c S hrt hlk hin hsz hK hP hD hA hS ls hl
  subst hsz
  generalize hAe : va_A (wMd Γ a v hs g) s.heap.size = A at hD hA hS ⊢
  obtain ⟨hx, hb, hml, hown, hts⟩ := id S
  obtain ⟨hM, hI, hc6, h1, h2, hBR, hSR⟩ := id hX
  have hl : lv_has ls 3 [(0, .ref (a 0)), (1, .int ip), (2, .int ix)] := hl
  have hH : s.heap = s.heap := rfl
  refine lv_aload_n hx hb dX9_veils_0 rfl (lv_at hl 0 rfl) ?_
  refine lv_iconst (v := nI 0) hx hb dX9_veils_1 (by decide) ?_
  refine va_put (D := Γ.1) (ci := 9) (v := .int (nI 0)) (ty := .int) (C := RX9) (T := TX9) (N := 11) hx hb hts (by decide +kernel) tyX9 tyX9_ok nmX9 hown hK hP hD hS 0 rfl rfl 0 (by decide) (hts (.fieldLink RX9 22 "RowVeilsModel" "thrown" "I") (by decide +kernel)) (fun _ h9 => h9) rfl (by decide +kernel) rfl rfl (Nat.le_of_ble_eq_true rfl) dX9_veils_2 (fun H locs hP hD hS => ?_)
  have hP : gP Γ [(a 0, .inr (9, [.int (nI 0), .ref (a 1), .ref (a 2), .int (v 1), .ref (a 3), .int (v 2), .int (v 3), .int (v 4), .ref (a 4), .int (v 5), .long hs])), (a 1, .inl (Γ.2.1, 130, .inl (g 0))), (a 2, .inl (Γ.2.1, 780, .inl (g 1))), (a 3, .inl (Γ.2.1, 60, .inl (g 2))), (a 4, .inl (Γ.2.1, 88, .inl (g 3)))] H := hP
  have hD : va_D A [(a 0, .inr (9, [.int (nI 0), .ref (a 1), .ref (a 2), .int (v 1), .ref (a 3), .int (v 2), .int (v 3), .int (v 4), .ref (a 4), .int (v 5), .long hs])), (a 1, .inl (Γ.2.1, 130, .inl (g 0))), (a 2, .inl (Γ.2.1, 780, .inl (g 1))), (a 3, .inl (Γ.2.1, 60, .inl (g 2))), (a 4, .inl (Γ.2.1, 88, .inl (g 3)))] := hD
  refine lv_iload_n hx hb dX9_veils_5 rfl (lv_at hl 1 rfl) ?_
  refine cSi (As := [.int ip]) (rest := []) (m_X9_isPerson l ip) S k_X9_isPerson gX9_veils_X9_isPerson ⟨Nat.le_of_ble_eq_true rfl, Nat.le_of_ble_eq_true rfl⟩ rfl hl.1 (Nat.le_of_ble_eq_true rfl) rfl dX9_veils_6 ⟨Nat.le_of_ble_eq_true rfl, Nat.le_of_ble_eq_true rfl⟩ (fun r hr => ?_)
  subst hr
  refine lv_if_eq (tgt := 29) hx hb dX9_veils_9 (by decide) (fun c_9 => ?_) (fun c_9 => ?_)
  · have n_9 := bI_z.mp c_9
    refine lv_aload_n hx hb dX9_veils_29 rfl (lv_at hl 0 rfl) ?_
    refine lv_iconst (v := nI 1) hx hb dX9_veils_30 (by decide) ?_
    refine cWi (As := [.int (nI 1)]) (rest := []) (wr := []) (m_X9_fails l Γ _ a (va_up v 0 (nI 0)) hs g (nI 1)) S k_X9_fails gX9_veils_X9_fails rfl ⟨Nat.le_of_ble_eq_true rfl, Nat.le_of_ble_eq_true rfl⟩ hK hP hD hS hA [0, 1, 2, 3, 4] [] rfl rfl (by decide) (by decide) (by decide) 0 (ci := 9) rfl rfl rfl rfl hl.1 (Nat.le_of_ble_eq_true rfl) rfl dX9_veils_31 ⟨Nat.le_of_ble_eq_true rfl, Nat.le_of_ble_eq_true rfl⟩ (fun r u H locs hr hP hD hS => ?_)
    have hP : gP Γ [(a 0, .inr (9, [.int (nI 1), .ref (a 1), .ref (a 2), .int (v 1), .ref (a 3), .int (v 2), .int (v 3), .int (v 4), .ref (a 4), .int (v 5), .long hs])), (a 1, .inl (Γ.2.1, 130, .inl (g 0))), (a 2, .inl (Γ.2.1, 780, .inl (g 1))), (a 3, .inl (Γ.2.1, 60, .inl (g 2))), (a 4, .inl (Γ.2.1, 88, .inl (g 3)))] H := hP
    have hD : va_D A [(a 0, .inr (9, [.int (nI 1), .ref (a 1), .ref (a 2), .int (v 1), .ref (a 3), .int (v 2), .int (v 3), .int (v 4), .ref (a 4), .int (v 5), .long hs])), (a 1, .inl (Γ.2.1, 130, .inl (g 0))), (a 2, .inl (Γ.2.1, 780, .inl (g 1))), (a 3, .inl (Γ.2.1, 60, .inl (g 2))), (a 4, .inl (Γ.2.1, 88, .inl (g 3)))] := hD
    subst hr
    exact W.iret (v := nI 0) hx hb hrt (fun t9 ht9 hW9 => ⟨⟨_, (va_up v 0 (nI 1), hs, g), rfl, MO.bad (k := 0) (by unfold veC; first | (rw [n_9]; rfl) | (rw [n_9, n_17]; rfl)) rfl rfl (hX.th rfl rfl), wd_end hK hP hD [0, 1, 2, 3, 4] (by decide) rfl t9 ht9 hW9⟩, hS.F ht9⟩) hS.2.2 dX9_veils_34 hlk
  · have n_9 := bI_nz.mp c_9
    refine lv_aload_n hx hb dX9_veils_12 rfl (lv_at hl 0 rfl) ?_
    refine lv_iload_n hx hb dX9_veils_13 rfl (lv_at hl 2 rfl) ?_
    refine cRi (As := [.int ix]) (rest := []) (m_X9_isRow l Γ a (va_up v 0 (nI 0)) hs g σ hM hI ix) S k_X9_isRow gX9_veils_X9_isRow rfl ⟨Nat.le_of_ble_eq_true rfl, Nat.le_of_ble_eq_true rfl⟩ hK hP [0, 1, 2, 3, 4] rfl 0 (ci := 9) rfl rfl rfl rfl hl.1 (Nat.le_of_ble_eq_true rfl) rfl dX9_veils_14 ⟨Nat.le_of_ble_eq_true rfl, Nat.le_of_ble_eq_true rfl⟩ (fun r hr => ?_)
    subst hr
    refine lv_if_eq (tgt := 29) hx hb dX9_veils_17 (by decide) (fun c_17 => ?_) (fun c_17 => ?_)
    · have n_17 := bI_z.mp c_17
      refine lv_aload_n hx hb dX9_veils_29 rfl (lv_at hl 0 rfl) ?_
      refine lv_iconst (v := nI 1) hx hb dX9_veils_30 (by decide) ?_
      refine cWi (As := [.int (nI 1)]) (rest := []) (wr := []) (m_X9_fails l Γ _ a (va_up v 0 (nI 0)) hs g (nI 1)) S k_X9_fails gX9_veils_X9_fails rfl ⟨Nat.le_of_ble_eq_true rfl, Nat.le_of_ble_eq_true rfl⟩ hK hP hD hS hA [0, 1, 2, 3, 4] [] rfl rfl (by decide) (by decide) (by decide) 0 (ci := 9) rfl rfl rfl rfl hl.1 (Nat.le_of_ble_eq_true rfl) rfl dX9_veils_31 ⟨Nat.le_of_ble_eq_true rfl, Nat.le_of_ble_eq_true rfl⟩ (fun r u H locs hr hP hD hS => ?_)
      have hP : gP Γ [(a 0, .inr (9, [.int (nI 1), .ref (a 1), .ref (a 2), .int (v 1), .ref (a 3), .int (v 2), .int (v 3), .int (v 4), .ref (a 4), .int (v 5), .long hs])), (a 1, .inl (Γ.2.1, 130, .inl (g 0))), (a 2, .inl (Γ.2.1, 780, .inl (g 1))), (a 3, .inl (Γ.2.1, 60, .inl (g 2))), (a 4, .inl (Γ.2.1, 88, .inl (g 3)))] H := hP
      have hD : va_D A [(a 0, .inr (9, [.int (nI 1), .ref (a 1), .ref (a 2), .int (v 1), .ref (a 3), .int (v 2), .int (v 3), .int (v 4), .ref (a 4), .int (v 5), .long hs])), (a 1, .inl (Γ.2.1, 130, .inl (g 0))), (a 2, .inl (Γ.2.1, 780, .inl (g 1))), (a 3, .inl (Γ.2.1, 60, .inl (g 2))), (a 4, .inl (Γ.2.1, 88, .inl (g 3)))] := hD
      subst hr
      exact W.iret (v := nI 0) hx hb hrt (fun t9 ht9 hW9 => ⟨⟨_, (va_up v 0 (nI 1), hs, g), rfl, MO.bad (k := 0) (by unfold veC; first | (rw [n_9]; rfl) | (rw [n_9, n_17]; rfl)) rfl rfl (hX.th rfl rfl), wd_end hK hP hD [0, 1, 2, 3, 4] (by decide) rfl t9 ht9 hW9⟩, hS.F ht9⟩) hS.2.2 dX9_veils_34 hlk
    · have n_17 := bI_nz.mp c_17
      obtain ⟨p0, h_p0, rfl⟩ := in_lt (by decide) n_9
      have hp : p0 < 5 := by omega
      obtain ⟨q, hq0, rfl⟩ := in_row hI.n n_17
      have hn := hI.n
      refine lv_aload_n hx hb dX9_veils_20 rfl (lv_at hl 0 rfl) ?_
      refine lv_iload_n hx hb dX9_veils_21 rfl (lv_at hl 1 rfl) ?_
      refine lv_iload_n hx hb dX9_veils_22 rfl (lv_at hl 2 rfl) ?_
      refine cRi (As := [.int (nI p0), .int (nI q)]) (rest := []) (m_X9_veilsOf l Γ a (va_up v 0 (nI 0)) hs g σ hM hI p0 q hp hq0) S k_X9_veilsOf gX9_veils_X9_veilsOf rfl ⟨Nat.le_of_ble_eq_true rfl, Nat.le_of_ble_eq_true rfl⟩ hK hP [0, 1, 2, 3, 4] rfl 0 (ci := 9) rfl rfl rfl rfl hl.1 (Nat.le_of_ble_eq_true rfl) rfl dX9_veils_23 ⟨Nat.le_of_ble_eq_true rfl, Nat.le_of_ble_eq_true rfl⟩ (fun r hr => ?_)
      subst hr
      refine lv_goto (tgt := 34) hx hb dX9_veils_26 (by decide) ?_
      exact W.iret (v := nI (vmk σ p0 q)) hx hb hrt (fun t9 ht9 hW9 => ⟨⟨_, (va_up v 0 (nI 0), hs, g), rfl, MO.ok (by unfold veC; rw [n_9, n_17]; rfl) rfl (by rw [nI_clamp (by omega), nI_clamp (by omega)]) (hX.th rfl rfl), wd_end hK hP hD [0, 1, 2, 3, 4] (by decide) rfl t9 ht9 hW9⟩, hS.F ht9⟩) hS.2.2 dX9_veils_34 hlk

abbrev rm_X9_remembered : Room := { frames := 2, cells := 0, slots := 0, locals := 42 }
theorem k_X9_remembered : Cal yX9_remembered wsX9_remembered rm_X9_remembered cX9_remembered 3 (some .int) 2 0 0 := ⟨⟨_, rfl⟩, rfl, rfl, by decide +kernel⟩
set_option maxHeartbeats 4000000 in
set_option maxRecDepth 100000 in
theorem m_X9_remembered (l : Launch) (Γ : Gm) (sz : Nat) (a : Nat → Nat) (v : Nat → Int32) (hs : Int64) (g : Nat → Nat → Int32) (σ : Nat → Nat) (sc : Nat) (ss : Nat → Nat → Nat) (nb : Nat) (bb : Nat → Nat) (hX : MR σ sc ss nb bb v g) (ip ik : Int32) : MWi (S := WtM) l yX9_remembered wsX9_remembered rm_X9_remembered Γ sz (wMd Γ a v hs g) [.ref (a 0), .int ip, .int ik] (fun r u => MO (reC ip ik) r (remV σ ip.toNatClampNeg ik.toNatClampNeg) (MR σ sc ss nb bb u.1 u.2.2) (MR σ sc ss nb bb u.1 u.2.2) (u.1 0)) (fun u => (wMd Γ a u.1 u.2.1 u.2.2)) 0 0 := by
  refine mW (cc := cX9_remembered) (maxL := 3) (ret := (some .int)) (own := RX9) (by decide) rfl rfl (Nat.le_of_ble_eq_true rfl) ?_
  intro p e s m args below meth c S hrt hlk hin hsz hK hP hD hA hS ls hl
  subst hsz
  generalize hAe : va_A (wMd Γ a v hs g) s.heap.size = A at hD hA hS ⊢
  obtain ⟨hx, hb, hml, hown, hts⟩ := id S
  obtain ⟨hM, hI, hc6, h1, h2, hBR, hSR⟩ := id hX
  have hl : lv_has ls 3 [(0, .ref (a 0)), (1, .int ip), (2, .int ik)] := hl
  have hH : s.heap = s.heap := rfl
  refine lv_aload_n hx hb dX9_remembered_0 rfl (lv_at hl 0 rfl) ?_
  refine lv_iconst (v := nI 0) hx hb dX9_remembered_1 (by decide) ?_
  refine va_put (D := Γ.1) (ci := 9) (v := .int (nI 0)) (ty := .int) (C := RX9) (T := TX9) (N := 11) hx hb hts (by decide +kernel) tyX9 tyX9_ok nmX9 hown hK hP hD hS 0 rfl rfl 0 (by decide) (hts (.fieldLink RX9 22 "RowVeilsModel" "thrown" "I") (by decide +kernel)) (fun _ h9 => h9) rfl (by decide +kernel) rfl rfl (Nat.le_of_ble_eq_true rfl) dX9_remembered_2 (fun H locs hP hD hS => ?_)
  have hP : gP Γ [(a 0, .inr (9, [.int (nI 0), .ref (a 1), .ref (a 2), .int (v 1), .ref (a 3), .int (v 2), .int (v 3), .int (v 4), .ref (a 4), .int (v 5), .long hs])), (a 1, .inl (Γ.2.1, 130, .inl (g 0))), (a 2, .inl (Γ.2.1, 780, .inl (g 1))), (a 3, .inl (Γ.2.1, 60, .inl (g 2))), (a 4, .inl (Γ.2.1, 88, .inl (g 3)))] H := hP
  have hD : va_D A [(a 0, .inr (9, [.int (nI 0), .ref (a 1), .ref (a 2), .int (v 1), .ref (a 3), .int (v 2), .int (v 3), .int (v 4), .ref (a 4), .int (v 5), .long hs])), (a 1, .inl (Γ.2.1, 130, .inl (g 0))), (a 2, .inl (Γ.2.1, 780, .inl (g 1))), (a 3, .inl (Γ.2.1, 60, .inl (g 2))), (a 4, .inl (Γ.2.1, 88, .inl (g 3)))] := hD
  refine lv_iload_n hx hb dX9_remembered_5 rfl (lv_at hl 1 rfl) ?_
  refine cSi (As := [.int ip]) (rest := []) (m_X9_isPerson l ip) S k_X9_isPerson gX9_remembered_X9_isPerson ⟨Nat.le_of_ble_eq_true rfl, Nat.le_of_ble_eq_true rfl⟩ rfl hl.1 (Nat.le_of_ble_eq_true rfl) rfl dX9_remembered_6 ⟨Nat.le_of_ble_eq_true rfl, Nat.le_of_ble_eq_true rfl⟩ (fun r hr => ?_)
  subst hr
  refine lv_if_ne (tgt := 18) hx hb dX9_remembered_9 (by decide) (fun c_9 => ?_) (fun c_9 => ?_)
  · have n_9 := bI_nz.mp c_9
    refine lv_iload_n hx hb dX9_remembered_18 rfl (lv_at hl 2 rfl) ?_
    refine lv_if_ge (tgt := 28) hx hb dX9_remembered_19 (by decide) (fun c_19 => ?_) (fun c_19 => ?_)
    · obtain ⟨j, hj, rfl⟩ := nI_of (Int32.not_lt.mpr c_19)
      obtain ⟨p0, h_p0, rfl⟩ := in_lt (by decide) n_9
      have hp : p0 < 5 := by omega
      have hk6 := hI.kept hp
      refine lv_iload_n hx hb dX9_remembered_28 rfl (lv_at hl 2 rfl) ?_
      refine lv_aload_n hx hb dX9_remembered_29 rfl (lv_at hl 0 rfl) ?_
      refine lv_iload_n hx hb dX9_remembered_30 rfl (lv_at hl 1 rfl) ?_
      refine cRi (As := [.int (nI p0)]) (rest := [.int (nI j)]) (m_X9_kept l Γ a (va_up v 0 (nI 0)) hs g σ hM hI p0 hp) S k_X9_kept gX9_remembered_X9_kept rfl ⟨Nat.le_of_ble_eq_true rfl, Nat.le_of_ble_eq_true rfl⟩ hK hP [0, 1, 2, 3, 4] rfl 0 (ci := 9) rfl rfl rfl rfl hl.1 (Nat.le_of_ble_eq_true rfl) rfl dX9_remembered_31 ⟨Nat.le_of_ble_eq_true rfl, Nat.le_of_ble_eq_true rfl⟩ (fun r hr => ?_)
      subst hr
      refine lv_icmp_ge (tgt := 46) hx hb dX9_remembered_34 (by decide) (fun c_34 => ?_) (fun c_34 => ?_)
      · have n_34 := (nI_leI (a := (oK σ p0)) (b := j) (by omega) (by omega)).mp c_34
        refine lv_iconst (v := (-1)) hx hb dX9_remembered_46 (by decide) ?_
        exact W.iret (v := (-1)) hx hb hrt (fun t9 ht9 hW9 => ⟨⟨_, (va_up v 0 (nI 0), hs, g), rfl, MO.ok (by unfold reC; rw [n_9, if_neg (by decide), if_neg (Int32.not_lt.mpr c_19)]) rfl (by rw [nI_clamp (by omega), nI_clamp hj]; unfold remV; rw [if_neg (by omega)]) (hX.th rfl rfl), wd_end hK hP hD [0, 1, 2, 3, 4] (by decide) rfl t9 ht9 hW9⟩, hS.F ht9⟩) hS.2.2 dX9_remembered_47 hlk
      · have n_34 := (not_congr (nI_leI (a := (oK σ p0)) (b := j) (by omega) (by omega))).mp c_34
        refine lv_aload_n hx hb dX9_remembered_37 rfl (lv_at hl 0 rfl) ?_
        refine lv_iload_n hx hb dX9_remembered_38 rfl (lv_at hl 1 rfl) ?_
        refine lv_iload_n hx hb dX9_remembered_39 rfl (lv_at hl 2 rfl) ?_
        refine cRi (As := [.int (nI p0), .int (nI j)]) (rest := []) (m_X9_keptAt l Γ a (va_up v 0 (nI 0)) hs g σ hM hI p0 j (by omega)) S k_X9_keptAt gX9_remembered_X9_keptAt rfl ⟨Nat.le_of_ble_eq_true rfl, Nat.le_of_ble_eq_true rfl⟩ hK hP [0, 1, 2, 3, 4] rfl 0 (ci := 9) rfl rfl rfl rfl hl.1 (Nat.le_of_ble_eq_true rfl) rfl dX9_remembered_40 ⟨Nat.le_of_ble_eq_true rfl, Nat.le_of_ble_eq_true rfl⟩ (fun r hr => ?_)
        subst hr
        refine lv_goto (tgt := 47) hx hb dX9_remembered_43 (by decide) ?_
        exact W.iret (v := nI (oM σ p0 j)) hx hb hrt (fun t9 ht9 hW9 => ⟨⟨_, (va_up v 0 (nI 0), hs, g), rfl, MO.ok (by unfold reC; rw [n_9, if_neg (by decide), if_neg (Int32.not_lt.mpr c_19)]) rfl (by rw [nI_clamp (by omega), nI_clamp hj]; unfold remV; rw [if_pos (by omega)]) (hX.th rfl rfl), wd_end hK hP hD [0, 1, 2, 3, 4] (by decide) rfl t9 ht9 hW9⟩, hS.F ht9⟩) hS.2.2 dX9_remembered_47 hlk
    · refine lv_aload_n hx hb dX9_remembered_22 rfl (lv_at hl 0 rfl) ?_
      refine lv_iconst (v := nI 2) hx hb dX9_remembered_23 (by decide) ?_
      refine cWi (As := [.int (nI 2)]) (rest := []) (wr := []) (m_X9_fails l Γ _ a (va_up v 0 (nI 0)) hs g (nI 2)) S k_X9_fails gX9_remembered_X9_fails rfl ⟨Nat.le_of_ble_eq_true rfl, Nat.le_of_ble_eq_true rfl⟩ hK hP hD hS hA [0, 1, 2, 3, 4] [] rfl rfl (by decide) (by decide) (by decide) 0 (ci := 9) rfl rfl rfl rfl hl.1 (Nat.le_of_ble_eq_true rfl) rfl dX9_remembered_24 ⟨Nat.le_of_ble_eq_true rfl, Nat.le_of_ble_eq_true rfl⟩ (fun r u H locs hr hP hD hS => ?_)
      have hP : gP Γ [(a 0, .inr (9, [.int (nI 2), .ref (a 1), .ref (a 2), .int (v 1), .ref (a 3), .int (v 2), .int (v 3), .int (v 4), .ref (a 4), .int (v 5), .long hs])), (a 1, .inl (Γ.2.1, 130, .inl (g 0))), (a 2, .inl (Γ.2.1, 780, .inl (g 1))), (a 3, .inl (Γ.2.1, 60, .inl (g 2))), (a 4, .inl (Γ.2.1, 88, .inl (g 3)))] H := hP
      have hD : va_D A [(a 0, .inr (9, [.int (nI 2), .ref (a 1), .ref (a 2), .int (v 1), .ref (a 3), .int (v 2), .int (v 3), .int (v 4), .ref (a 4), .int (v 5), .long hs])), (a 1, .inl (Γ.2.1, 130, .inl (g 0))), (a 2, .inl (Γ.2.1, 780, .inl (g 1))), (a 3, .inl (Γ.2.1, 60, .inl (g 2))), (a 4, .inl (Γ.2.1, 88, .inl (g 3)))] := hD
      subst hr
      exact W.iret (v := nI 0) hx hb hrt (fun t9 ht9 hW9 => ⟨⟨_, (va_up v 0 (nI 2), hs, g), rfl, MO.bad (k := 1) (by unfold reC; rw [n_9, if_neg (by decide), if_pos (Int32.not_le.mp c_19)]) rfl rfl (hX.th rfl rfl), wd_end hK hP hD [0, 1, 2, 3, 4] (by decide) rfl t9 ht9 hW9⟩, hS.F ht9⟩) hS.2.2 dX9_remembered_27 hlk
  · have n_9 := bI_z.mp c_9
    refine lv_aload_n hx hb dX9_remembered_12 rfl (lv_at hl 0 rfl) ?_
    refine lv_iconst (v := nI 1) hx hb dX9_remembered_13 (by decide) ?_
    refine cWi (As := [.int (nI 1)]) (rest := []) (wr := []) (m_X9_fails l Γ _ a (va_up v 0 (nI 0)) hs g (nI 1)) S k_X9_fails gX9_remembered_X9_fails rfl ⟨Nat.le_of_ble_eq_true rfl, Nat.le_of_ble_eq_true rfl⟩ hK hP hD hS hA [0, 1, 2, 3, 4] [] rfl rfl (by decide) (by decide) (by decide) 0 (ci := 9) rfl rfl rfl rfl hl.1 (Nat.le_of_ble_eq_true rfl) rfl dX9_remembered_14 ⟨Nat.le_of_ble_eq_true rfl, Nat.le_of_ble_eq_true rfl⟩ (fun r u H locs hr hP hD hS => ?_)
    have hP : gP Γ [(a 0, .inr (9, [.int (nI 1), .ref (a 1), .ref (a 2), .int (v 1), .ref (a 3), .int (v 2), .int (v 3), .int (v 4), .ref (a 4), .int (v 5), .long hs])), (a 1, .inl (Γ.2.1, 130, .inl (g 0))), (a 2, .inl (Γ.2.1, 780, .inl (g 1))), (a 3, .inl (Γ.2.1, 60, .inl (g 2))), (a 4, .inl (Γ.2.1, 88, .inl (g 3)))] H := hP
    have hD : va_D A [(a 0, .inr (9, [.int (nI 1), .ref (a 1), .ref (a 2), .int (v 1), .ref (a 3), .int (v 2), .int (v 3), .int (v 4), .ref (a 4), .int (v 5), .long hs])), (a 1, .inl (Γ.2.1, 130, .inl (g 0))), (a 2, .inl (Γ.2.1, 780, .inl (g 1))), (a 3, .inl (Γ.2.1, 60, .inl (g 2))), (a 4, .inl (Γ.2.1, 88, .inl (g 3)))] := hD
    subst hr
    exact W.iret (v := nI 0) hx hb hrt (fun t9 ht9 hW9 => ⟨⟨_, (va_up v 0 (nI 1), hs, g), rfl, MO.bad (k := 0) (by unfold reC; first | (rw [n_9]; rfl)) rfl rfl (hX.th rfl rfl), wd_end hK hP hD [0, 1, 2, 3, 4] (by decide) rfl t9 ht9 hW9⟩, hS.F ht9⟩) hS.2.2 dX9_remembered_17 hlk

abbrev rm_X9_count : Room := { frames := 7, cells := 0, slots := 0, locals := 161 }
theorem k_X9_count : Cal yX9_count wsX9_count rm_X9_count cX9_count 2 (some .int) 1 0 0 := ⟨⟨_, rfl⟩, rfl, rfl, by decide +kernel⟩
set_option maxHeartbeats 4000000 in
set_option maxRecDepth 100000 in
theorem m_X9_count (l : Launch) (Γ : Gm) (sz : Nat) (a : Nat → Nat) (v : Nat → Int32) (hs : Int64) (g : Nat → Nat → Int32) (σ : Nat → Nat) (sc : Nat) (ss : Nat → Nat → Nat) (nb : Nat) (bb : Nat → Nat) (hX : MR σ sc ss nb bb v g) (iw : Int32) : MWi (S := WtM) l yX9_count wsX9_count rm_X9_count Γ sz (wMd Γ a v hs g) [.ref (a 0), .int iw] (fun r u => MO (coC iw) r (cntQ σ (nI sc) iw.toNatClampNeg) (MR σ sc ss nb bb u.1 u.2.2) (MR σ sc ss nb bb u.1 u.2.2) (u.1 0)) (fun u => (wMd Γ a u.1 u.2.1 u.2.2)) 0 0 := by
  refine mW (cc := cX9_count) (maxL := 2) (ret := (some .int)) (own := RX9) (by decide) rfl rfl (Nat.le_of_ble_eq_true rfl) ?_
  intro p e s m args below meth c S hrt hlk hin hsz hK hP hD hA hS ls hl
  subst hsz
  generalize hAe : va_A (wMd Γ a v hs g) s.heap.size = A at hD hA hS ⊢
  obtain ⟨hx, hb, hml, hown, hts⟩ := id S
  obtain ⟨hM, hI, hc6, h1, h2, hBR, hSR⟩ := id hX
  have hl : lv_has ls 2 [(0, .ref (a 0)), (1, .int iw)] := hl
  have hH : s.heap = s.heap := rfl
  refine lv_aload_n hx hb dX9_count_0 rfl (lv_at hl 0 rfl) ?_
  refine lv_iconst (v := nI 0) hx hb dX9_count_1 (by decide) ?_
  refine va_put (D := Γ.1) (ci := 9) (v := .int (nI 0)) (ty := .int) (C := RX9) (T := TX9) (N := 11) hx hb hts (by decide +kernel) tyX9 tyX9_ok nmX9 hown hK hP hD hS 0 rfl rfl 0 (by decide) (hts (.fieldLink RX9 22 "RowVeilsModel" "thrown" "I") (by decide +kernel)) (fun _ h9 => h9) rfl (by decide +kernel) rfl rfl (Nat.le_of_ble_eq_true rfl) dX9_count_2 (fun H locs hP hD hS => ?_)
  have hP : gP Γ [(a 0, .inr (9, [.int (nI 0), .ref (a 1), .ref (a 2), .int (v 1), .ref (a 3), .int (v 2), .int (v 3), .int (v 4), .ref (a 4), .int (v 5), .long hs])), (a 1, .inl (Γ.2.1, 130, .inl (g 0))), (a 2, .inl (Γ.2.1, 780, .inl (g 1))), (a 3, .inl (Γ.2.1, 60, .inl (g 2))), (a 4, .inl (Γ.2.1, 88, .inl (g 3)))] H := hP
  have hD : va_D A [(a 0, .inr (9, [.int (nI 0), .ref (a 1), .ref (a 2), .int (v 1), .ref (a 3), .int (v 2), .int (v 3), .int (v 4), .ref (a 4), .int (v 5), .long hs])), (a 1, .inl (Γ.2.1, 130, .inl (g 0))), (a 2, .inl (Γ.2.1, 780, .inl (g 1))), (a 3, .inl (Γ.2.1, 60, .inl (g 2))), (a 4, .inl (Γ.2.1, 88, .inl (g 3)))] := hD
  refine lv_iload_n hx hb dX9_count_5 rfl (lv_at hl 1 rfl) ?_
  refine lv_iconst (v := nI 0) hx hb dX9_count_6 (by decide) ?_
  refine lv_bipush (v := nI 9) hx hb dX9_count_7 (by decide) ?_
  refine cSi (As := [.int iw, .int (nI 0), .int (nI 9)]) (rest := []) (m_X9_in l iw (nI 0) (nI 9)) S k_X9_in gX9_count_X9_in ⟨Nat.le_of_ble_eq_true rfl, Nat.le_of_ble_eq_true rfl⟩ rfl hl.1 (Nat.le_of_ble_eq_true rfl) rfl dX9_count_9 ⟨Nat.le_of_ble_eq_true rfl, Nat.le_of_ble_eq_true rfl⟩ (fun r hr => ?_)
  subst hr
  refine lv_if_eq (tgt := 23) hx hb dX9_count_12 (by decide) (fun c_12 => ?_) (fun c_12 => ?_)
  · have n_12 := bI_z.mp c_12
    refine lv_aload_n hx hb dX9_count_23 rfl (lv_at hl 0 rfl) ?_
    refine lv_iconst (v := nI 1) hx hb dX9_count_24 (by decide) ?_
    refine cWi (As := [.int (nI 1)]) (rest := []) (wr := []) (m_X9_fails l Γ _ a (va_up v 0 (nI 0)) hs g (nI 1)) S k_X9_fails gX9_count_X9_fails rfl ⟨Nat.le_of_ble_eq_true rfl, Nat.le_of_ble_eq_true rfl⟩ hK hP hD hS hA [0, 1, 2, 3, 4] [] rfl rfl (by decide) (by decide) (by decide) 0 (ci := 9) rfl rfl rfl rfl hl.1 (Nat.le_of_ble_eq_true rfl) rfl dX9_count_25 ⟨Nat.le_of_ble_eq_true rfl, Nat.le_of_ble_eq_true rfl⟩ (fun r u H locs hr hP hD hS => ?_)
    have hP : gP Γ [(a 0, .inr (9, [.int (nI 1), .ref (a 1), .ref (a 2), .int (v 1), .ref (a 3), .int (v 2), .int (v 3), .int (v 4), .ref (a 4), .int (v 5), .long hs])), (a 1, .inl (Γ.2.1, 130, .inl (g 0))), (a 2, .inl (Γ.2.1, 780, .inl (g 1))), (a 3, .inl (Γ.2.1, 60, .inl (g 2))), (a 4, .inl (Γ.2.1, 88, .inl (g 3)))] H := hP
    have hD : va_D A [(a 0, .inr (9, [.int (nI 1), .ref (a 1), .ref (a 2), .int (v 1), .ref (a 3), .int (v 2), .int (v 3), .int (v 4), .ref (a 4), .int (v 5), .long hs])), (a 1, .inl (Γ.2.1, 130, .inl (g 0))), (a 2, .inl (Γ.2.1, 780, .inl (g 1))), (a 3, .inl (Γ.2.1, 60, .inl (g 2))), (a 4, .inl (Γ.2.1, 88, .inl (g 3)))] := hD
    subst hr
    exact W.iret (v := nI 0) hx hb hrt (fun t9 ht9 hW9 => ⟨⟨_, (va_up v 0 (nI 1), hs, g), rfl, MO.bad (k := 0) (by unfold coC; first | (rw [n_12]; rfl)) rfl rfl (hX.th rfl rfl), wd_end hK hP hD [0, 1, 2, 3, 4] (by decide) rfl t9 ht9 hW9⟩, hS.F ht9⟩) hS.2.2 dX9_count_28 hlk
  · have n_12 := bI_nz.mp c_12
    obtain ⟨w, h_w, rfl⟩ := in_lt (by decide) n_12
    refine lv_aload_n hx hb dX9_count_15 rfl (lv_at hl 0 rfl) ?_
    refine lv_iload_n hx hb dX9_count_16 rfl (lv_at hl 1 rfl) ?_
    refine cRi (As := [.int (nI w)]) (rest := []) (m_X9_tellsCount l Γ a (va_up v 0 (nI 0)) hs g σ hM hI w (by omega)) S k_X9_tellsCount gX9_count_X9_tellsCount rfl ⟨Nat.le_of_ble_eq_true rfl, Nat.le_of_ble_eq_true rfl⟩ hK hP [0, 1, 2, 3, 4] rfl 0 (ci := 9) rfl rfl rfl rfl hl.1 (Nat.le_of_ble_eq_true rfl) rfl dX9_count_17 ⟨Nat.le_of_ble_eq_true rfl, Nat.le_of_ble_eq_true rfl⟩ (fun r hr => ?_)
    subst hr
    refine asi (z := cntQ σ (nI sc) w) (by rw [← h1]; rfl) ?_
    refine lv_goto (tgt := 28) hx hb dX9_count_20 (by decide) ?_
    exact W.iret (v := cntQ σ (nI sc) w) hx hb hrt (fun t9 ht9 hW9 => ⟨⟨_, (va_up v 0 (nI 0), hs, g), rfl, MO.ok (by unfold coC; rw [n_12]; rfl) rfl (by rw [nI_clamp (by omega)]) (hX.th rfl rfl), wd_end hK hP hD [0, 1, 2, 3, 4] (by decide) rfl t9 ht9 hW9⟩, hS.F ht9⟩) hS.2.2 dX9_count_28 hlk

abbrev rm_X9_ifAsked : Room := { frames := 8, cells := 0, slots := 0, locals := 188 }
theorem k_X9_ifAsked : Cal yX9_ifAsked wsX9_ifAsked rm_X9_ifAsked cX9_ifAsked 6 (some .int) 5 0 0 := ⟨⟨_, rfl⟩, rfl, rfl, by decide +kernel⟩
set_option maxHeartbeats 4000000 in
set_option maxRecDepth 100000 in
theorem m_X9_ifAsked (l : Launch) (Γ : Gm) (sz : Nat) (a : Nat → Nat) (v : Nat → Int32) (hs : Int64) (g : Nat → Nat → Int32) (σ : Nat → Nat) (sc : Nat) (ss : Nat → Nat → Nat) (nb : Nat) (bb : Nat → Nat) (hX : MR σ sc ss nb bb v g) (ip ipl il ih iw : Int32) : MWi (S := WtM) l yX9_ifAsked wsX9_ifAsked rm_X9_ifAsked Γ sz (wMd Γ a v hs g) [.ref (a 0), .int ip, .int ipl, .int il, .int ih, .int iw] (fun r u => MO (ifC ip ipl il ih iw) r (wouQ σ ip.toNatClampNeg ipl il.toNatClampNeg ih.toNatClampNeg iw.toNatClampNeg) (MR σ sc ss nb bb u.1 u.2.2) (MR σ sc ss nb bb u.1 u.2.2) (u.1 0)) (fun u => (wMd Γ a u.1 u.2.1 u.2.2)) 0 0 := by
  refine mW (cc := cX9_ifAsked) (maxL := 6) (ret := (some .int)) (own := RX9) (by decide) rfl rfl (Nat.le_of_ble_eq_true rfl) ?_
  intro p e s m args below meth c S hrt hlk hin hsz hK hP hD hA hS ls hl
  subst hsz
  generalize hAe : va_A (wMd Γ a v hs g) s.heap.size = A at hD hA hS ⊢
  obtain ⟨hx, hb, hml, hown, hts⟩ := id S
  obtain ⟨hM, hI, hc6, h1, h2, hBR, hSR⟩ := id hX
  have hl : lv_has ls 6 [(0, .ref (a 0)), (1, .int ip), (2, .int ipl), (3, .int il), (4, .int ih), (5, .int iw)] := hl
  have hH : s.heap = s.heap := rfl
  refine lv_aload_n hx hb dX9_ifAsked_0 rfl (lv_at hl 0 rfl) ?_
  refine lv_aload_n hx hb dX9_ifAsked_1 rfl (lv_at hl 0 rfl) ?_
  refine lv_iload_n hx hb dX9_ifAsked_2 rfl (lv_at hl 1 rfl) ?_
  refine lv_iload_n hx hb dX9_ifAsked_3 rfl (lv_at hl 2 rfl) ?_
  refine lv_iload_n hx hb dX9_ifAsked_4 rfl (lv_at hl 3 rfl) ?_
  refine lv_iload hx hb dX9_ifAsked_5 (lv_at hl 4 rfl) ?_
  refine cRi (As := [.int ip, .int ipl, .int il, .int ih]) (rest := [.ref (a 0)]) (m_X9_refuses l Γ a v hs g ip ipl il ih) S k_X9_refuses gX9_ifAsked_X9_refuses rfl ⟨Nat.le_of_ble_eq_true rfl, Nat.le_of_ble_eq_true rfl⟩ hK hP [0, 1, 2, 3, 4] rfl 0 (ci := 9) rfl rfl rfl rfl hl.1 (Nat.le_of_ble_eq_true rfl) rfl dX9_ifAsked_7 ⟨Nat.le_of_ble_eq_true rfl, Nat.le_of_ble_eq_true rfl⟩ (fun r hr => ?_)
  subst hr
  refine va_put (D := Γ.1) (ci := 9) (v := .int (nI (qCode ip ipl il ih))) (ty := .int) (C := RX9) (T := TX9) (N := 11) hx hb hts (by decide +kernel) tyX9 tyX9_ok nmX9 hown hK hP hD hS 0 rfl rfl 0 (by decide) (hts (.fieldLink RX9 22 "RowVeilsModel" "thrown" "I") (by decide +kernel)) (fun _ h9 => h9) rfl (by decide +kernel) rfl rfl (Nat.le_of_ble_eq_true rfl) dX9_ifAsked_10 (fun H locs hP hD hS => ?_)
  have hP : gP Γ [(a 0, .inr (9, [.int (nI (qCode ip ipl il ih)), .ref (a 1), .ref (a 2), .int (v 1), .ref (a 3), .int (v 2), .int (v 3), .int (v 4), .ref (a 4), .int (v 5), .long hs])), (a 1, .inl (Γ.2.1, 130, .inl (g 0))), (a 2, .inl (Γ.2.1, 780, .inl (g 1))), (a 3, .inl (Γ.2.1, 60, .inl (g 2))), (a 4, .inl (Γ.2.1, 88, .inl (g 3)))] H := hP
  have hD : va_D A [(a 0, .inr (9, [.int (nI (qCode ip ipl il ih)), .ref (a 1), .ref (a 2), .int (v 1), .ref (a 3), .int (v 2), .int (v 3), .int (v 4), .ref (a 4), .int (v 5), .long hs])), (a 1, .inl (Γ.2.1, 130, .inl (g 0))), (a 2, .inl (Γ.2.1, 780, .inl (g 1))), (a 3, .inl (Γ.2.1, 60, .inl (g 2))), (a 4, .inl (Γ.2.1, 88, .inl (g 3)))] := hD
  refine lv_aload_n hx hb dX9_ifAsked_13 rfl (lv_at hl 0 rfl) ?_
  refine va_get (D := Γ.1) (ci := 9) (v := .int (nI (qCode ip ipl il ih))) (C := RX9) (T := TX9) (N := 11) hx hb hts (by decide +kernel) hown hK hP 0 rfl rfl 0 (by decide) (hts (.fieldLink RX9 22 "RowVeilsModel" "thrown" "I") (by decide +kernel)) (fun _ h9 => h9) rfl dX9_ifAsked_14 ?_
  refine lv_if_eq (tgt := 22) hx hb dX9_ifAsked_17 (by decide) (fun c_17 => ?_) (fun c_17 => ?_)
  · have n_17 := (nI_eq (qCode_le _ _ _ _) (by decide)).mp c_17
    obtain ⟨p0, lo, hi2, hp, hlo, hlh, hhi, rfl, hpl, rfl, rfl⟩ := qCode_ok n_17
    rw [n_17] at hP hD
    refine lv_iload hx hb dX9_ifAsked_22 (lv_at hl 5 rfl) ?_
    refine lv_iconst (v := nI 0) hx hb dX9_ifAsked_24 (by decide) ?_
    refine lv_iconst (v := nI 3) hx hb dX9_ifAsked_25 (by decide) ?_
    refine cSi (As := [.int iw, .int (nI 0), .int (nI 3)]) (rest := []) (m_X9_in l iw (nI 0) (nI 3)) S k_X9_in gX9_ifAsked_X9_in ⟨Nat.le_of_ble_eq_true rfl, Nat.le_of_ble_eq_true rfl⟩ rfl hl.1 (Nat.le_of_ble_eq_true rfl) rfl dX9_ifAsked_26 ⟨Nat.le_of_ble_eq_true rfl, Nat.le_of_ble_eq_true rfl⟩ (fun r hr => ?_)
    subst hr
    refine lv_if_eq (tgt := 46) hx hb dX9_ifAsked_29 (by decide) (fun c_29 => ?_) (fun c_29 => ?_)
    · have n_29 := bI_z.mp c_29
      refine lv_aload_n hx hb dX9_ifAsked_46 rfl (lv_at hl 0 rfl) ?_
      refine lv_iconst (v := nI 2) hx hb dX9_ifAsked_47 (by decide) ?_
      refine cWi (As := [.int (nI 2)]) (rest := []) (wr := []) (m_X9_fails l Γ _ a (va_up v 0 (nI 0)) hs g (nI 2)) S k_X9_fails gX9_ifAsked_X9_fails rfl ⟨Nat.le_of_ble_eq_true rfl, Nat.le_of_ble_eq_true rfl⟩ hK hP hD hS hA [0, 1, 2, 3, 4] [] rfl rfl (by decide) (by decide) (by decide) 0 (ci := 9) rfl rfl rfl rfl hl.1 (Nat.le_of_ble_eq_true rfl) rfl dX9_ifAsked_48 ⟨Nat.le_of_ble_eq_true rfl, Nat.le_of_ble_eq_true rfl⟩ (fun r u H locs hr hP hD hS => ?_)
      have hP : gP Γ [(a 0, .inr (9, [.int (nI 2), .ref (a 1), .ref (a 2), .int (v 1), .ref (a 3), .int (v 2), .int (v 3), .int (v 4), .ref (a 4), .int (v 5), .long hs])), (a 1, .inl (Γ.2.1, 130, .inl (g 0))), (a 2, .inl (Γ.2.1, 780, .inl (g 1))), (a 3, .inl (Γ.2.1, 60, .inl (g 2))), (a 4, .inl (Γ.2.1, 88, .inl (g 3)))] H := hP
      have hD : va_D A [(a 0, .inr (9, [.int (nI 2), .ref (a 1), .ref (a 2), .int (v 1), .ref (a 3), .int (v 2), .int (v 3), .int (v 4), .ref (a 4), .int (v 5), .long hs])), (a 1, .inl (Γ.2.1, 130, .inl (g 0))), (a 2, .inl (Γ.2.1, 780, .inl (g 1))), (a 3, .inl (Γ.2.1, 60, .inl (g 2))), (a 4, .inl (Γ.2.1, 88, .inl (g 3)))] := hD
      subst hr
      exact W.iret (v := nI 0) hx hb hrt (fun t9 ht9 hW9 => ⟨⟨_, (va_up v 0 (nI 2), hs, g), rfl, MO.bad (k := 1) (by unfold ifC; rw [if_pos n_17, n_29]; rfl) rfl rfl (hX.th rfl rfl), wd_end hK hP hD [0, 1, 2, 3, 4] (by decide) rfl t9 ht9 hW9⟩, hS.F ht9⟩) hS.2.2 dX9_ifAsked_51 hlk
    · have n_29 := bI_nz.mp c_29
      obtain ⟨w, h_w, rfl⟩ := in_lt (by decide) n_29
      refine lv_aload_n hx hb dX9_ifAsked_32 rfl (lv_at hl 0 rfl) ?_
      refine lv_iload_n hx hb dX9_ifAsked_33 rfl (lv_at hl 1 rfl) ?_
      refine lv_iload_n hx hb dX9_ifAsked_34 rfl (lv_at hl 2 rfl) ?_
      refine lv_iload_n hx hb dX9_ifAsked_35 rfl (lv_at hl 3 rfl) ?_
      refine lv_iload hx hb dX9_ifAsked_36 (lv_at hl 4 rfl) ?_
      refine lv_iload hx hb dX9_ifAsked_38 (lv_at hl 5 rfl) ?_
      refine cRi (As := [.int (nI p0), .int ipl, .int (nI lo), .int (nI hi2), .int (nI w)]) (rest := []) (m_X9_would l Γ a (va_up v 0 (nI 0)) hs g σ hM hI p0 hp ipl lo hi2 (by omega) (by omega) w (by omega)) S k_X9_would gX9_ifAsked_X9_would rfl ⟨Nat.le_of_ble_eq_true rfl, Nat.le_of_ble_eq_true rfl⟩ hK hP [0, 1, 2, 3, 4] rfl 0 (ci := 9) rfl rfl rfl rfl hl.1 (Nat.le_of_ble_eq_true rfl) rfl dX9_ifAsked_40 ⟨Nat.le_of_ble_eq_true rfl, Nat.le_of_ble_eq_true rfl⟩ (fun r hr => ?_)
      subst hr
      refine lv_goto (tgt := 51) hx hb dX9_ifAsked_43 (by decide) ?_
      exact W.iret (v := wouQ σ p0 ipl lo hi2 w) hx hb hrt (fun t9 ht9 hW9 => ⟨⟨_, (va_up v 0 (nI 0), hs, g), rfl, MO.ok (by unfold ifC; rw [if_pos n_17, n_29]; rfl) rfl (by rw [nI_clamp (by omega), nI_clamp (by omega), nI_clamp (by omega), nI_clamp (by omega)]) (hX.th rfl rfl), wd_end hK hP hD [0, 1, 2, 3, 4] (by decide) rfl t9 ht9 hW9⟩, hS.F ht9⟩) hS.2.2 dX9_ifAsked_51 hlk
  · have n_17 := (not_congr (nI_eq (qCode_le _ _ _ _) (by decide))).mp c_17
    refine lv_iconst (v := nI 0) hx hb dX9_ifAsked_20 (by decide) ?_
    exact W.iret (v := nI 0) hx hb hrt (fun t9 ht9 hW9 => ⟨⟨_, (va_up v 0 (nI (qCode ip ipl il ih)), hs, g), rfl, ⟨(congrArg nI (show ifC ip ipl il ih iw = qCode ip ipl il ih from if_neg n_17)).symm, fun h => absurd ((show ifC ip ipl il ih iw = qCode ip ipl il ih from if_neg n_17).symm.trans h) n_17, fun _ => ⟨rfl, (hX.th rfl rfl)⟩⟩, wd_end hK hP hD [0, 1, 2, 3, 4] (by decide) rfl t9 ht9 hW9⟩, hS.F ht9⟩) hS.2.2 dX9_ifAsked_21 hlk

abbrev rm_X9_hides : Room := { frames := 7, cells := 0, slots := 0, locals := 161 }
theorem k_X9_hides : Cal yX9_hides wsX9_hides rm_X9_hides cX9_hides 2 (some .int) 1 0 0 := ⟨⟨_, rfl⟩, rfl, rfl, by decide +kernel⟩
set_option maxHeartbeats 4000000 in
set_option maxRecDepth 100000 in
theorem m_X9_hides (l : Launch) (Γ : Gm) (sz : Nat) (a : Nat → Nat) (v : Nat → Int32) (hs : Int64) (g : Nat → Nat → Int32) (σ : Nat → Nat) (sc : Nat) (ss : Nat → Nat → Nat) (nb : Nat) (bb : Nat → Nat) (hX : MR σ sc ss nb bb v g) (ip : Int32) : MWi (S := WtM) l yX9_hides wsX9_hides rm_X9_hides Γ sz (wMd Γ a v hs g) [.ref (a 0), .int ip] (fun r u => MO (hiC ip) r (nI (hidQ σ ip.toNatClampNeg)) (MR σ sc ss nb bb u.1 u.2.2) (MR σ sc ss nb bb u.1 u.2.2) (u.1 0)) (fun u => (wMd Γ a u.1 u.2.1 u.2.2)) 0 0 := by
  refine mW (cc := cX9_hides) (maxL := 2) (ret := (some .int)) (own := RX9) (by decide) rfl rfl (Nat.le_of_ble_eq_true rfl) ?_
  intro p e s m args below meth c S hrt hlk hin hsz hK hP hD hA hS ls hl
  subst hsz
  generalize hAe : va_A (wMd Γ a v hs g) s.heap.size = A at hD hA hS ⊢
  obtain ⟨hx, hb, hml, hown, hts⟩ := id S
  obtain ⟨hM, hI, hc6, h1, h2, hBR, hSR⟩ := id hX
  have hl : lv_has ls 2 [(0, .ref (a 0)), (1, .int ip)] := hl
  have hH : s.heap = s.heap := rfl
  refine lv_aload_n hx hb dX9_hides_0 rfl (lv_at hl 0 rfl) ?_
  refine lv_iconst (v := nI 0) hx hb dX9_hides_1 (by decide) ?_
  refine va_put (D := Γ.1) (ci := 9) (v := .int (nI 0)) (ty := .int) (C := RX9) (T := TX9) (N := 11) hx hb hts (by decide +kernel) tyX9 tyX9_ok nmX9 hown hK hP hD hS 0 rfl rfl 0 (by decide) (hts (.fieldLink RX9 22 "RowVeilsModel" "thrown" "I") (by decide +kernel)) (fun _ h9 => h9) rfl (by decide +kernel) rfl rfl (Nat.le_of_ble_eq_true rfl) dX9_hides_2 (fun H locs hP hD hS => ?_)
  have hP : gP Γ [(a 0, .inr (9, [.int (nI 0), .ref (a 1), .ref (a 2), .int (v 1), .ref (a 3), .int (v 2), .int (v 3), .int (v 4), .ref (a 4), .int (v 5), .long hs])), (a 1, .inl (Γ.2.1, 130, .inl (g 0))), (a 2, .inl (Γ.2.1, 780, .inl (g 1))), (a 3, .inl (Γ.2.1, 60, .inl (g 2))), (a 4, .inl (Γ.2.1, 88, .inl (g 3)))] H := hP
  have hD : va_D A [(a 0, .inr (9, [.int (nI 0), .ref (a 1), .ref (a 2), .int (v 1), .ref (a 3), .int (v 2), .int (v 3), .int (v 4), .ref (a 4), .int (v 5), .long hs])), (a 1, .inl (Γ.2.1, 130, .inl (g 0))), (a 2, .inl (Γ.2.1, 780, .inl (g 1))), (a 3, .inl (Γ.2.1, 60, .inl (g 2))), (a 4, .inl (Γ.2.1, 88, .inl (g 3)))] := hD
  refine lv_iload_n hx hb dX9_hides_5 rfl (lv_at hl 1 rfl) ?_
  refine lv_iconst (v := nI 0) hx hb dX9_hides_6 (by decide) ?_
  refine lv_iconst (v := nI 3) hx hb dX9_hides_7 (by decide) ?_
  refine cSi (As := [.int ip, .int (nI 0), .int (nI 3)]) (rest := []) (m_X9_in l ip (nI 0) (nI 3)) S k_X9_in gX9_hides_X9_in ⟨Nat.le_of_ble_eq_true rfl, Nat.le_of_ble_eq_true rfl⟩ rfl hl.1 (Nat.le_of_ble_eq_true rfl) rfl dX9_hides_8 ⟨Nat.le_of_ble_eq_true rfl, Nat.le_of_ble_eq_true rfl⟩ (fun r hr => ?_)
  subst hr
  refine lv_if_eq (tgt := 22) hx hb dX9_hides_11 (by decide) (fun c_11 => ?_) (fun c_11 => ?_)
  · have n_11 := bI_z.mp c_11
    refine lv_aload_n hx hb dX9_hides_22 rfl (lv_at hl 0 rfl) ?_
    refine lv_iconst (v := nI 1) hx hb dX9_hides_23 (by decide) ?_
    refine cWi (As := [.int (nI 1)]) (rest := []) (wr := []) (m_X9_fails l Γ _ a (va_up v 0 (nI 0)) hs g (nI 1)) S k_X9_fails gX9_hides_X9_fails rfl ⟨Nat.le_of_ble_eq_true rfl, Nat.le_of_ble_eq_true rfl⟩ hK hP hD hS hA [0, 1, 2, 3, 4] [] rfl rfl (by decide) (by decide) (by decide) 0 (ci := 9) rfl rfl rfl rfl hl.1 (Nat.le_of_ble_eq_true rfl) rfl dX9_hides_24 ⟨Nat.le_of_ble_eq_true rfl, Nat.le_of_ble_eq_true rfl⟩ (fun r u H locs hr hP hD hS => ?_)
    have hP : gP Γ [(a 0, .inr (9, [.int (nI 1), .ref (a 1), .ref (a 2), .int (v 1), .ref (a 3), .int (v 2), .int (v 3), .int (v 4), .ref (a 4), .int (v 5), .long hs])), (a 1, .inl (Γ.2.1, 130, .inl (g 0))), (a 2, .inl (Γ.2.1, 780, .inl (g 1))), (a 3, .inl (Γ.2.1, 60, .inl (g 2))), (a 4, .inl (Γ.2.1, 88, .inl (g 3)))] H := hP
    have hD : va_D A [(a 0, .inr (9, [.int (nI 1), .ref (a 1), .ref (a 2), .int (v 1), .ref (a 3), .int (v 2), .int (v 3), .int (v 4), .ref (a 4), .int (v 5), .long hs])), (a 1, .inl (Γ.2.1, 130, .inl (g 0))), (a 2, .inl (Γ.2.1, 780, .inl (g 1))), (a 3, .inl (Γ.2.1, 60, .inl (g 2))), (a 4, .inl (Γ.2.1, 88, .inl (g 3)))] := hD
    subst hr
    exact W.iret (v := nI 0) hx hb hrt (fun t9 ht9 hW9 => ⟨⟨_, (va_up v 0 (nI 1), hs, g), rfl, MO.bad (k := 0) (by unfold hiC; first | (rw [n_11]; rfl)) rfl rfl (hX.th rfl rfl), wd_end hK hP hD [0, 1, 2, 3, 4] (by decide) rfl t9 ht9 hW9⟩, hS.F ht9⟩) hS.2.2 dX9_hides_27 hlk
  · have n_11 := bI_nz.mp c_11
    obtain ⟨p0, h_p0, rfl⟩ := in_lt (by decide) n_11
    refine lv_aload_n hx hb dX9_hides_14 rfl (lv_at hl 0 rfl) ?_
    refine lv_iload_n hx hb dX9_hides_15 rfl (lv_at hl 1 rfl) ?_
    refine cRi (As := [.int (nI p0)]) (rest := []) (m_X9_hidden l Γ a (va_up v 0 (nI 0)) hs g σ hM hI p0 (by omega)) S k_X9_hidden gX9_hides_X9_hidden rfl ⟨Nat.le_of_ble_eq_true rfl, Nat.le_of_ble_eq_true rfl⟩ hK hP [0, 1, 2, 3, 4] rfl 0 (ci := 9) rfl rfl rfl rfl hl.1 (Nat.le_of_ble_eq_true rfl) rfl dX9_hides_16 ⟨Nat.le_of_ble_eq_true rfl, Nat.le_of_ble_eq_true rfl⟩ (fun r hr => ?_)
    subst hr
    refine lv_goto (tgt := 27) hx hb dX9_hides_19 (by decide) ?_
    exact W.iret (v := nI (hidQ σ p0)) hx hb hrt (fun t9 ht9 hW9 => ⟨⟨_, (va_up v 0 (nI 0), hs, g), rfl, MO.ok (by unfold hiC; rw [n_11]; rfl) rfl (by rw [nI_clamp (by omega)]) (hX.th rfl rfl), wd_end hK hP hD [0, 1, 2, 3, 4] (by decide) rfl t9 ht9 hW9⟩, hS.F ht9⟩) hS.2.2 dX9_hides_27 hlk

abbrev rm_X9_blindest : Room := { frames := 7, cells := 0, slots := 0, locals := 160 }
theorem k_X9_blindest : Cal yX9_blindest wsX9_blindest rm_X9_blindest cX9_blindest 1 (some .int) 0 0 0 := ⟨⟨_, rfl⟩, rfl, rfl, by decide +kernel⟩
set_option maxHeartbeats 4000000 in
set_option maxRecDepth 100000 in
theorem m_X9_blindest (l : Launch) (Γ : Gm) (sz : Nat) (a : Nat → Nat) (v : Nat → Int32) (hs : Int64) (g : Nat → Nat → Int32) (σ : Nat → Nat) (sc : Nat) (ss : Nat → Nat → Nat) (nb : Nat) (bb : Nat → Nat) (hX : MR σ sc ss nb bb v g)  : MWi (S := WtM) l yX9_blindest wsX9_blindest rm_X9_blindest Γ sz (wMd Γ a v hs g) [.ref (a 0)] (fun r u => MO (0) r (nI (blF (seenN σ) 5)) (MR σ sc ss nb bb u.1 u.2.2) (MR σ sc ss nb bb u.1 u.2.2) (u.1 0)) (fun u => (wMd Γ a u.1 u.2.1 u.2.2)) 0 0 := by
  refine mW (cc := cX9_blindest) (maxL := 1) (ret := (some .int)) (own := RX9) (by decide) rfl rfl (Nat.le_of_ble_eq_true rfl) ?_
  intro p e s m args below meth c S hrt hlk hin hsz hK hP hD hA hS ls hl
  subst hsz
  generalize hAe : va_A (wMd Γ a v hs g) s.heap.size = A at hD hA hS ⊢
  obtain ⟨hx, hb, hml, hown, hts⟩ := id S
  obtain ⟨hM, hI, hc6, h1, h2, hBR, hSR⟩ := id hX
  have hl : lv_has ls 1 [(0, .ref (a 0))] := hl
  have hH : s.heap = s.heap := rfl
  refine lv_aload_n hx hb dX9_blindest_0 rfl (lv_at hl 0 rfl) ?_
  refine lv_iconst (v := nI 0) hx hb dX9_blindest_1 (by decide) ?_
  refine va_put (D := Γ.1) (ci := 9) (v := .int (nI 0)) (ty := .int) (C := RX9) (T := TX9) (N := 11) hx hb hts (by decide +kernel) tyX9 tyX9_ok nmX9 hown hK hP hD hS 0 rfl rfl 0 (by decide) (hts (.fieldLink RX9 22 "RowVeilsModel" "thrown" "I") (by decide +kernel)) (fun _ h9 => h9) rfl (by decide +kernel) rfl rfl (Nat.le_of_ble_eq_true rfl) dX9_blindest_2 (fun H locs hP hD hS => ?_)
  have hP : gP Γ [(a 0, .inr (9, [.int (nI 0), .ref (a 1), .ref (a 2), .int (v 1), .ref (a 3), .int (v 2), .int (v 3), .int (v 4), .ref (a 4), .int (v 5), .long hs])), (a 1, .inl (Γ.2.1, 130, .inl (g 0))), (a 2, .inl (Γ.2.1, 780, .inl (g 1))), (a 3, .inl (Γ.2.1, 60, .inl (g 2))), (a 4, .inl (Γ.2.1, 88, .inl (g 3)))] H := hP
  have hD : va_D A [(a 0, .inr (9, [.int (nI 0), .ref (a 1), .ref (a 2), .int (v 1), .ref (a 3), .int (v 2), .int (v 3), .int (v 4), .ref (a 4), .int (v 5), .long hs])), (a 1, .inl (Γ.2.1, 130, .inl (g 0))), (a 2, .inl (Γ.2.1, 780, .inl (g 1))), (a 3, .inl (Γ.2.1, 60, .inl (g 2))), (a 4, .inl (Γ.2.1, 88, .inl (g 3)))] := hD
  refine lv_aload_n hx hb dX9_blindest_5 rfl (lv_at hl 0 rfl) ?_
  refine cRi (As := []) (rest := []) (m_X9_blindestOne l Γ a (va_up v 0 (nI 0)) hs g σ hM hI ) S k_X9_blindestOne gX9_blindest_X9_blindestOne rfl ⟨Nat.le_of_ble_eq_true rfl, Nat.le_of_ble_eq_true rfl⟩ hK hP [0, 1, 2, 3, 4] rfl 0 (ci := 9) rfl rfl rfl rfl hl.1 (Nat.le_of_ble_eq_true rfl) rfl dX9_blindest_6 ⟨Nat.le_of_ble_eq_true rfl, Nat.le_of_ble_eq_true rfl⟩ (fun r hr => ?_)
  subst hr
  exact W.iret (v := nI (blF (seenN σ) 5)) hx hb hrt (fun t9 ht9 hW9 => ⟨⟨_, (va_up v 0 (nI 0), hs, g), rfl, MO.ok rfl rfl rfl (hX.th rfl rfl), wd_end hK hP hD [0, 1, 2, 3, 4] (by decide) rfl t9 ht9 hW9⟩, hS.F ht9⟩) hS.2.2 dX9_blindest_9 hlk

abbrev rm_X9_needed : Room := { frames := 8, cells := 0, slots := 0, locals := 187 }
theorem k_X9_needed : Cal yX9_needed wsX9_needed rm_X9_needed cX9_needed 3 (some .int) 2 0 0 := ⟨⟨_, rfl⟩, rfl, rfl, by decide +kernel⟩
set_option maxHeartbeats 4000000 in
set_option maxRecDepth 100000 in
theorem m_X9_needed (l : Launch) (Γ : Gm) (sz : Nat) (a : Nat → Nat) (v : Nat → Int32) (hs : Int64) (g : Nat → Nat → Int32) (σ : Nat → Nat) (sc : Nat) (ss : Nat → Nat → Nat) (nb : Nat) (bb : Nat → Nat) (hX : MR σ sc ss nb bb v g) (ip il : Int32) : MWi (S := WtM) l yX9_needed wsX9_needed rm_X9_needed Γ sz (wMd Γ a v hs g) [.ref (a 0), .int ip, .int il] (fun r u => MO (neC ip il) r (needQ σ ip.toNatClampNeg il) (MR σ sc ss nb bb u.1 u.2.2) (MR σ sc ss nb bb u.1 u.2.2) (u.1 0)) (fun u => (wMd Γ a u.1 u.2.1 u.2.2)) 0 0 := by
  refine mW (cc := cX9_needed) (maxL := 3) (ret := (some .int)) (own := RX9) (by decide) rfl rfl (Nat.le_of_ble_eq_true rfl) ?_
  intro p e s m args below meth c S hrt hlk hin hsz hK hP hD hA hS ls hl
  subst hsz
  generalize hAe : va_A (wMd Γ a v hs g) s.heap.size = A at hD hA hS ⊢
  obtain ⟨hx, hb, hml, hown, hts⟩ := id S
  obtain ⟨hM, hI, hc6, h1, h2, hBR, hSR⟩ := id hX
  have hl : lv_has ls 3 [(0, .ref (a 0)), (1, .int ip), (2, .int il)] := hl
  have hH : s.heap = s.heap := rfl
  refine lv_aload_n hx hb dX9_needed_0 rfl (lv_at hl 0 rfl) ?_
  refine lv_iconst (v := nI 0) hx hb dX9_needed_1 (by decide) ?_
  refine va_put (D := Γ.1) (ci := 9) (v := .int (nI 0)) (ty := .int) (C := RX9) (T := TX9) (N := 11) hx hb hts (by decide +kernel) tyX9 tyX9_ok nmX9 hown hK hP hD hS 0 rfl rfl 0 (by decide) (hts (.fieldLink RX9 22 "RowVeilsModel" "thrown" "I") (by decide +kernel)) (fun _ h9 => h9) rfl (by decide +kernel) rfl rfl (Nat.le_of_ble_eq_true rfl) dX9_needed_2 (fun H locs hP hD hS => ?_)
  have hP : gP Γ [(a 0, .inr (9, [.int (nI 0), .ref (a 1), .ref (a 2), .int (v 1), .ref (a 3), .int (v 2), .int (v 3), .int (v 4), .ref (a 4), .int (v 5), .long hs])), (a 1, .inl (Γ.2.1, 130, .inl (g 0))), (a 2, .inl (Γ.2.1, 780, .inl (g 1))), (a 3, .inl (Γ.2.1, 60, .inl (g 2))), (a 4, .inl (Γ.2.1, 88, .inl (g 3)))] H := hP
  have hD : va_D A [(a 0, .inr (9, [.int (nI 0), .ref (a 1), .ref (a 2), .int (v 1), .ref (a 3), .int (v 2), .int (v 3), .int (v 4), .ref (a 4), .int (v 5), .long hs])), (a 1, .inl (Γ.2.1, 130, .inl (g 0))), (a 2, .inl (Γ.2.1, 780, .inl (g 1))), (a 3, .inl (Γ.2.1, 60, .inl (g 2))), (a 4, .inl (Γ.2.1, 88, .inl (g 3)))] := hD
  refine lv_iload_n hx hb dX9_needed_5 rfl (lv_at hl 1 rfl) ?_
  refine cSi (As := [.int ip]) (rest := []) (m_X9_isPerson l ip) S k_X9_isPerson gX9_needed_X9_isPerson ⟨Nat.le_of_ble_eq_true rfl, Nat.le_of_ble_eq_true rfl⟩ rfl hl.1 (Nat.le_of_ble_eq_true rfl) rfl dX9_needed_6 ⟨Nat.le_of_ble_eq_true rfl, Nat.le_of_ble_eq_true rfl⟩ (fun r hr => ?_)
  subst hr
  refine lv_if_eq (tgt := 30) hx hb dX9_needed_9 (by decide) (fun c_9 => ?_) (fun c_9 => ?_)
  · have n_9 := bI_z.mp c_9
    refine lv_aload_n hx hb dX9_needed_30 rfl (lv_at hl 0 rfl) ?_
    refine lv_iconst (v := nI 1) hx hb dX9_needed_31 (by decide) ?_
    refine cWi (As := [.int (nI 1)]) (rest := []) (wr := []) (m_X9_fails l Γ _ a (va_up v 0 (nI 0)) hs g (nI 1)) S k_X9_fails gX9_needed_X9_fails rfl ⟨Nat.le_of_ble_eq_true rfl, Nat.le_of_ble_eq_true rfl⟩ hK hP hD hS hA [0, 1, 2, 3, 4] [] rfl rfl (by decide) (by decide) (by decide) 0 (ci := 9) rfl rfl rfl rfl hl.1 (Nat.le_of_ble_eq_true rfl) rfl dX9_needed_32 ⟨Nat.le_of_ble_eq_true rfl, Nat.le_of_ble_eq_true rfl⟩ (fun r u H locs hr hP hD hS => ?_)
    have hP : gP Γ [(a 0, .inr (9, [.int (nI 1), .ref (a 1), .ref (a 2), .int (v 1), .ref (a 3), .int (v 2), .int (v 3), .int (v 4), .ref (a 4), .int (v 5), .long hs])), (a 1, .inl (Γ.2.1, 130, .inl (g 0))), (a 2, .inl (Γ.2.1, 780, .inl (g 1))), (a 3, .inl (Γ.2.1, 60, .inl (g 2))), (a 4, .inl (Γ.2.1, 88, .inl (g 3)))] H := hP
    have hD : va_D A [(a 0, .inr (9, [.int (nI 1), .ref (a 1), .ref (a 2), .int (v 1), .ref (a 3), .int (v 2), .int (v 3), .int (v 4), .ref (a 4), .int (v 5), .long hs])), (a 1, .inl (Γ.2.1, 130, .inl (g 0))), (a 2, .inl (Γ.2.1, 780, .inl (g 1))), (a 3, .inl (Γ.2.1, 60, .inl (g 2))), (a 4, .inl (Γ.2.1, 88, .inl (g 3)))] := hD
    subst hr
    exact W.iret (v := nI 0) hx hb hrt (fun t9 ht9 hW9 => ⟨⟨_, (va_up v 0 (nI 1), hs, g), rfl, MO.bad (k := 0) (by unfold neC; first | (rw [n_9]; rfl) | (rw [n_9, n_18]; rfl)) rfl rfl (hX.th rfl rfl), wd_end hK hP hD [0, 1, 2, 3, 4] (by decide) rfl t9 ht9 hW9⟩, hS.F ht9⟩) hS.2.2 dX9_needed_35 hlk
  · have n_9 := bI_nz.mp c_9
    refine lv_iload_n hx hb dX9_needed_12 rfl (lv_at hl 2 rfl) ?_
    refine lv_iconst (v := (-1)) hx hb dX9_needed_13 (by decide) ?_
    refine lv_iconst (v := nI 3) hx hb dX9_needed_14 (by decide) ?_
    refine cSi (As := [.int il, .int (-1), .int (nI 3)]) (rest := []) (m_X9_in l il (-1) (nI 3)) S k_X9_in gX9_needed_X9_in ⟨Nat.le_of_ble_eq_true rfl, Nat.le_of_ble_eq_true rfl⟩ rfl hl.1 (Nat.le_of_ble_eq_true rfl) rfl dX9_needed_15 ⟨Nat.le_of_ble_eq_true rfl, Nat.le_of_ble_eq_true rfl⟩ (fun r hr => ?_)
    subst hr
    refine lv_if_eq (tgt := 30) hx hb dX9_needed_18 (by decide) (fun c_18 => ?_) (fun c_18 => ?_)
    · have n_18 := bI_z.mp c_18
      rw [pl_in (by decide)] at n_18
      change plQ il = _ at n_18
      refine lv_aload_n hx hb dX9_needed_30 rfl (lv_at hl 0 rfl) ?_
      refine lv_iconst (v := nI 1) hx hb dX9_needed_31 (by decide) ?_
      refine cWi (As := [.int (nI 1)]) (rest := []) (wr := []) (m_X9_fails l Γ _ a (va_up v 0 (nI 0)) hs g (nI 1)) S k_X9_fails gX9_needed_X9_fails rfl ⟨Nat.le_of_ble_eq_true rfl, Nat.le_of_ble_eq_true rfl⟩ hK hP hD hS hA [0, 1, 2, 3, 4] [] rfl rfl (by decide) (by decide) (by decide) 0 (ci := 9) rfl rfl rfl rfl hl.1 (Nat.le_of_ble_eq_true rfl) rfl dX9_needed_32 ⟨Nat.le_of_ble_eq_true rfl, Nat.le_of_ble_eq_true rfl⟩ (fun r u H locs hr hP hD hS => ?_)
      have hP : gP Γ [(a 0, .inr (9, [.int (nI 1), .ref (a 1), .ref (a 2), .int (v 1), .ref (a 3), .int (v 2), .int (v 3), .int (v 4), .ref (a 4), .int (v 5), .long hs])), (a 1, .inl (Γ.2.1, 130, .inl (g 0))), (a 2, .inl (Γ.2.1, 780, .inl (g 1))), (a 3, .inl (Γ.2.1, 60, .inl (g 2))), (a 4, .inl (Γ.2.1, 88, .inl (g 3)))] H := hP
      have hD : va_D A [(a 0, .inr (9, [.int (nI 1), .ref (a 1), .ref (a 2), .int (v 1), .ref (a 3), .int (v 2), .int (v 3), .int (v 4), .ref (a 4), .int (v 5), .long hs])), (a 1, .inl (Γ.2.1, 130, .inl (g 0))), (a 2, .inl (Γ.2.1, 780, .inl (g 1))), (a 3, .inl (Γ.2.1, 60, .inl (g 2))), (a 4, .inl (Γ.2.1, 88, .inl (g 3)))] := hD
      subst hr
      exact W.iret (v := nI 0) hx hb hrt (fun t9 ht9 hW9 => ⟨⟨_, (va_up v 0 (nI 1), hs, g), rfl, MO.bad (k := 0) (by unfold neC; first | (rw [n_9]; rfl) | (rw [n_9, n_18]; rfl)) rfl rfl (hX.th rfl rfl), wd_end hK hP hD [0, 1, 2, 3, 4] (by decide) rfl t9 ht9 hW9⟩, hS.F ht9⟩) hS.2.2 dX9_needed_35 hlk
    · have n_18 := bI_nz.mp c_18
      obtain ⟨p0, h_p0, rfl⟩ := in_lt (by decide) n_9
      have hp : p0 < 5 := by omega
      rw [pl_in (by decide)] at n_18
      change plQ il = _ at n_18
      refine lv_aload_n hx hb dX9_needed_21 rfl (lv_at hl 0 rfl) ?_
      refine lv_iload_n hx hb dX9_needed_22 rfl (lv_at hl 1 rfl) ?_
      refine lv_iload_n hx hb dX9_needed_23 rfl (lv_at hl 2 rfl) ?_
      refine cRi (As := [.int (nI p0), .int il]) (rest := []) (m_X9_neededBy l Γ a (va_up v 0 (nI 0)) hs g σ hM hI p0 hp il) S k_X9_neededBy gX9_needed_X9_neededBy rfl ⟨Nat.le_of_ble_eq_true rfl, Nat.le_of_ble_eq_true rfl⟩ hK hP [0, 1, 2, 3, 4] rfl 0 (ci := 9) rfl rfl rfl rfl hl.1 (Nat.le_of_ble_eq_true rfl) rfl dX9_needed_24 ⟨Nat.le_of_ble_eq_true rfl, Nat.le_of_ble_eq_true rfl⟩ (fun r hr => ?_)
      subst hr
      refine lv_goto (tgt := 35) hx hb dX9_needed_27 (by decide) ?_
      exact W.iret (v := needQ σ p0 il) hx hb hrt (fun t9 ht9 hW9 => ⟨⟨_, (va_up v 0 (nI 0), hs, g), rfl, MO.ok (by unfold neC; rw [n_9, n_18]; rfl) rfl (by rw [nI_clamp (by omega)]) (hX.th rfl rfl), wd_end hK hP hD [0, 1, 2, 3, 4] (by decide) rfl t9 ht9 hW9⟩, hS.F ht9⟩) hS.2.2 dX9_needed_35 hlk

abbrev rm_X9_openness : Room := { frames := 7, cells := 0, slots := 0, locals := 161 }
theorem k_X9_openness : Cal yX9_openness wsX9_openness rm_X9_openness cX9_openness 1 (some .double) 0 0 0 := ⟨⟨_, rfl⟩, rfl, rfl, by decide +kernel⟩
set_option maxHeartbeats 4000000 in
set_option maxRecDepth 100000 in
theorem m_X9_openness (l : Launch) (Γ : Gm) (sz : Nat) (a : Nat → Nat) (v : Nat → Int32) (hs : Int64) (g : Nat → Nat → Int32) (σ : Nat → Nat) (sc : Nat) (ss : Nat → Nat → Nat) (nb : Nat) (bb : Nat → Nat) (hX : MR σ sc ss nb bb v g)  : MWd (S := WtM) l yX9_openness wsX9_openness rm_X9_openness Γ sz (wMd Γ a v hs g) [.ref (a 0)] (fun r u => r = shareQ σ ∧ u.1 0 = nI 0 ∧ MR σ sc ss nb bb u.1 u.2.2) (fun u => (wMd Γ a u.1 u.2.1 u.2.2)) 0 0 := by
  refine mW (cc := cX9_openness) (maxL := 1) (ret := (some .double)) (own := RX9) (by decide) rfl rfl (Nat.le_of_ble_eq_true rfl) ?_
  intro p e s m args below meth c S hrt hlk hin hsz hK hP hD hA hS ls hl
  subst hsz
  generalize hAe : va_A (wMd Γ a v hs g) s.heap.size = A at hD hA hS ⊢
  obtain ⟨hx, hb, hml, hown, hts⟩ := id S
  obtain ⟨hM, hI, hc6, h1, h2, hBR, hSR⟩ := id hX
  have hl : lv_has ls 1 [(0, .ref (a 0))] := hl
  have hH : s.heap = s.heap := rfl
  refine lv_aload_n hx hb dX9_openness_0 rfl (lv_at hl 0 rfl) ?_
  refine lv_iconst (v := nI 0) hx hb dX9_openness_1 (by decide) ?_
  refine va_put (D := Γ.1) (ci := 9) (v := .int (nI 0)) (ty := .int) (C := RX9) (T := TX9) (N := 11) hx hb hts (by decide +kernel) tyX9 tyX9_ok nmX9 hown hK hP hD hS 0 rfl rfl 0 (by decide) (hts (.fieldLink RX9 22 "RowVeilsModel" "thrown" "I") (by decide +kernel)) (fun _ h9 => h9) rfl (by decide +kernel) rfl rfl (Nat.le_of_ble_eq_true rfl) dX9_openness_2 (fun H locs hP hD hS => ?_)
  have hP : gP Γ [(a 0, .inr (9, [.int (nI 0), .ref (a 1), .ref (a 2), .int (v 1), .ref (a 3), .int (v 2), .int (v 3), .int (v 4), .ref (a 4), .int (v 5), .long hs])), (a 1, .inl (Γ.2.1, 130, .inl (g 0))), (a 2, .inl (Γ.2.1, 780, .inl (g 1))), (a 3, .inl (Γ.2.1, 60, .inl (g 2))), (a 4, .inl (Γ.2.1, 88, .inl (g 3)))] H := hP
  have hD : va_D A [(a 0, .inr (9, [.int (nI 0), .ref (a 1), .ref (a 2), .int (v 1), .ref (a 3), .int (v 2), .int (v 3), .int (v 4), .ref (a 4), .int (v 5), .long hs])), (a 1, .inl (Γ.2.1, 130, .inl (g 0))), (a 2, .inl (Γ.2.1, 780, .inl (g 1))), (a 3, .inl (Γ.2.1, 60, .inl (g 2))), (a 4, .inl (Γ.2.1, 88, .inl (g 3)))] := hD
  refine lv_aload_n hx hb dX9_openness_5 rfl (lv_at hl 0 rfl) ?_
  refine cRd (As := []) (rest := []) (m_X9_share l Γ a (va_up v 0 (nI 0)) hs g σ hM hI ) S k_X9_share gX9_openness_X9_share rfl ⟨Nat.le_of_ble_eq_true rfl, Nat.le_of_ble_eq_true rfl⟩ hK hP [0, 1, 2, 3, 4] rfl 0 (ci := 9) rfl rfl rfl rfl hl.1 (Nat.le_of_ble_eq_true rfl) rfl dX9_openness_6 ⟨Nat.le_of_ble_eq_true rfl, Nat.le_of_ble_eq_true rfl⟩ (fun r hr => ?_)
  subst hr
  exact W.dret (v := shareQ σ) hx hb hrt (fun t9 ht9 hW9 => ⟨⟨_, (va_up v 0 (nI 0), hs, g), rfl, ⟨rfl, rfl, (hX.th rfl rfl)⟩, wd_end hK hP hD [0, 1, 2, 3, 4] (by decide) rfl t9 ht9 hW9⟩, hS.F ht9⟩) hS.2.2 dX9_openness_9 hlk

