/-! The reference made. -/
def gI9 : Nat → Nat → Int32 := fun k => if k = 0 then upd (upd (upd (fun _ => 0) 1 (nI 15)) 2 (nI 1)) 3 (nI 1) else fun _ => 0
abbrev rm_X9_init : Room := { frames := 1, cells := 4, slots := 1058, locals := 20 }
theorem k_X9_init : Cal yX9_init wsX9_init rm_X9_init cX9_init 1 none 0 4 1058 := ⟨⟨_, rfl⟩, rfl, rfl, by decide +kernel⟩
set_option maxHeartbeats 4000000 in
set_option maxRecDepth 100000 in
theorem m_X9_init (l : Launch) (Γ : Gm) (sz : Nat) (h : Nat) : MWv (S := Nat → Nat) l yX9_init wsX9_init rm_X9_init Γ sz [(h, .inr (9, [.int 0, .null, .null, .int 0, .null, .int 0, .int 0, .int 0, .null, .int 0, .long 0]))] [.ref h] (fun u => u 0 = h) (fun u => (wMd Γ u (fun _ => nI 0) 0 gI9)) 4 1058 := by
  refine mW (cc := cX9_init) (maxL := 1) (ret := none) (own := RX9) (by decide) rfl rfl (Nat.le_of_ble_eq_true rfl) ?_
  intro p e s m args below meth c S hrt hlk hin hsz hK hP hD hA hS ls hl
  have hin := hin rfl
  subst hsz
  generalize hAe : va_A ([(h, .inr (9, [.int 0, .null, .null, .int 0, .null, .int 0, .int 0, .int 0, .null, .int 0, .long 0]))]) s.heap.size = A at hD hA hS ⊢
  obtain ⟨hx, hb, hml, hown, hts⟩ := id S
  have hl : lv_has ls 1 [(0, .ref h)] := hl
  have hH : s.heap = s.heap := rfl
  refine lv_aload_n hx hb dX9_init_0 rfl (lv_at hl 0 rfl) ?_
  refine W.objInit hx hb hown (hts (.methodLink RX9 1 objectInit) (by decide +kernel)) (hts (.instanceMethod objectInit) (by decide +kernel)) (hts (.code objectInit ⟨#[0xb1]⟩ 1 none) (by decide +kernel)) rfl (by rw [hml]; exact hl.1) rfl dX9_init_1 (Nat.le_of_ble_eq_true rfl) (Nat.le_of_ble_eq_true rfl) ?_
  refine W.eq (g2 := F0 m 4 ls []) rfl ?_
  refine lv_aload_n hx hb dX9_init_4 rfl (lv_at hl 0 rfl) ?_
  refine lv_sipush (v := nI 130) hx hb dX9_init_5 (by decide) ?_
  refine newI (N := 130) hx hb (hts (.arrayClass .int) (by decide +kernel)) hK hP hD hS hA (by decide) (by decide) (by decide) (Nat.le_of_ble_eq_true rfl) (Nat.le_of_ble_eq_true rfl) dX9_init_8 (fun q8 H hP hD hS => ?_)
  have hP : gP Γ [(h, .inr (9, [.int 0, .null, .null, .int 0, .null, .int 0, .int 0, .int 0, .null, .int 0, .long 0])), (q8, .inl (Γ.2.1, 130, .inl (fun _ => 0)))] H := hP
  have hD : va_D A [(h, .inr (9, [.int 0, .null, .null, .int 0, .null, .int 0, .int 0, .int 0, .null, .int 0, .long 0])), (q8, .inl (Γ.2.1, 130, .inl (fun _ => 0)))] := hD
  refine va_putF (D := Γ.1) (ci := 9) (v := .ref q8) (ty := .array .int) (C := RX9) (T := TX9) (N := 11) hx hb hts (by decide +kernel) tyX9 tyX9_ok nmX9 hown hK hP hD hS 0 rfl rfl 1 (by decide) (hts (.fieldLink RX9 7 "RowVeilsModel" "s" "[I") (by decide +kernel)) (fun _ h9 => h9) rfl hin rfl (by decide +kernel) rfl rfl (Nat.le_of_ble_eq_true rfl) dX9_init_10 (fun H locs hP hD hS => ?_)
  have hP : gP Γ [(h, .inr (9, [.int 0, .ref q8, .null, .int 0, .null, .int 0, .int 0, .int 0, .null, .int 0, .long 0])), (q8, .inl (Γ.2.1, 130, .inl (fun _ => 0)))] H := hP
  have hD : va_D A [(h, .inr (9, [.int 0, .ref q8, .null, .int 0, .null, .int 0, .int 0, .int 0, .null, .int 0, .long 0])), (q8, .inl (Γ.2.1, 130, .inl (fun _ => 0)))] := hD
  refine lv_aload_n hx hb dX9_init_13 rfl (lv_at hl 0 rfl) ?_
  refine lv_sipush (v := nI 780) hx hb dX9_init_14 (by decide) ?_
  refine newI (N := 780) hx hb (hts (.arrayClass .int) (by decide +kernel)) hK hP hD hS hA (by decide) (by decide) (by decide) (Nat.le_of_ble_eq_true rfl) (Nat.le_of_ble_eq_true rfl) dX9_init_17 (fun q17 H hP hD hS => ?_)
  have hP : gP Γ [(h, .inr (9, [.int 0, .ref q8, .null, .int 0, .null, .int 0, .int 0, .int 0, .null, .int 0, .long 0])), (q8, .inl (Γ.2.1, 130, .inl (fun _ => 0))), (q17, .inl (Γ.2.1, 780, .inl (fun _ => 0)))] H := hP
  have hD : va_D A [(h, .inr (9, [.int 0, .ref q8, .null, .int 0, .null, .int 0, .int 0, .int 0, .null, .int 0, .long 0])), (q8, .inl (Γ.2.1, 130, .inl (fun _ => 0))), (q17, .inl (Γ.2.1, 780, .inl (fun _ => 0)))] := hD
  refine va_putF (D := Γ.1) (ci := 9) (v := .ref q17) (ty := .array .int) (C := RX9) (T := TX9) (N := 11) hx hb hts (by decide +kernel) tyX9 tyX9_ok nmX9 hown hK hP hD hS 0 rfl rfl 2 (by decide) (hts (.fieldLink RX9 13 "RowVeilsModel" "saved" "[I") (by decide +kernel)) (fun _ h9 => h9) rfl hin rfl (by decide +kernel) rfl rfl (Nat.le_of_ble_eq_true rfl) dX9_init_19 (fun H locs hP hD hS => ?_)
  have hP : gP Γ [(h, .inr (9, [.int 0, .ref q8, .ref q17, .int 0, .null, .int 0, .int 0, .int 0, .null, .int 0, .long 0])), (q8, .inl (Γ.2.1, 130, .inl (fun _ => 0))), (q17, .inl (Γ.2.1, 780, .inl (fun _ => 0)))] H := hP
  have hD : va_D A [(h, .inr (9, [.int 0, .ref q8, .ref q17, .int 0, .null, .int 0, .int 0, .int 0, .null, .int 0, .long 0])), (q8, .inl (Γ.2.1, 130, .inl (fun _ => 0))), (q17, .inl (Γ.2.1, 780, .inl (fun _ => 0)))] := hD
  refine lv_aload_n hx hb dX9_init_22 rfl (lv_at hl 0 rfl) ?_
  refine lv_bipush (v := nI 60) hx hb dX9_init_23 (by decide) ?_
  refine newI (N := 60) hx hb (hts (.arrayClass .int) (by decide +kernel)) hK hP hD hS hA (by decide) (by decide) (by decide) (Nat.le_of_ble_eq_true rfl) (Nat.le_of_ble_eq_true rfl) dX9_init_25 (fun q25 H hP hD hS => ?_)
  have hP : gP Γ [(h, .inr (9, [.int 0, .ref q8, .ref q17, .int 0, .null, .int 0, .int 0, .int 0, .null, .int 0, .long 0])), (q8, .inl (Γ.2.1, 130, .inl (fun _ => 0))), (q17, .inl (Γ.2.1, 780, .inl (fun _ => 0))), (q25, .inl (Γ.2.1, 60, .inl (fun _ => 0)))] H := hP
  have hD : va_D A [(h, .inr (9, [.int 0, .ref q8, .ref q17, .int 0, .null, .int 0, .int 0, .int 0, .null, .int 0, .long 0])), (q8, .inl (Γ.2.1, 130, .inl (fun _ => 0))), (q17, .inl (Γ.2.1, 780, .inl (fun _ => 0))), (q25, .inl (Γ.2.1, 60, .inl (fun _ => 0)))] := hD
  refine va_putF (D := Γ.1) (ci := 9) (v := .ref q25) (ty := .array .int) (C := RX9) (T := TX9) (N := 11) hx hb hts (by decide +kernel) tyX9 tyX9_ok nmX9 hown hK hP hD hS 0 rfl rfl 4 (by decide) (hts (.fieldLink RX9 16 "RowVeilsModel" "buffer" "[I") (by decide +kernel)) (fun _ h9 => h9) rfl hin rfl (by decide +kernel) rfl rfl (Nat.le_of_ble_eq_true rfl) dX9_init_27 (fun H locs hP hD hS => ?_)
  have hP : gP Γ [(h, .inr (9, [.int 0, .ref q8, .ref q17, .int 0, .ref q25, .int 0, .int 0, .int 0, .null, .int 0, .long 0])), (q8, .inl (Γ.2.1, 130, .inl (fun _ => 0))), (q17, .inl (Γ.2.1, 780, .inl (fun _ => 0))), (q25, .inl (Γ.2.1, 60, .inl (fun _ => 0)))] H := hP
  have hD : va_D A [(h, .inr (9, [.int 0, .ref q8, .ref q17, .int 0, .ref q25, .int 0, .int 0, .int 0, .null, .int 0, .long 0])), (q8, .inl (Γ.2.1, 130, .inl (fun _ => 0))), (q17, .inl (Γ.2.1, 780, .inl (fun _ => 0))), (q25, .inl (Γ.2.1, 60, .inl (fun _ => 0)))] := hD
  refine lv_aload_n hx hb dX9_init_30 rfl (lv_at hl 0 rfl) ?_
  refine lv_bipush (v := nI 88) hx hb dX9_init_31 (by decide) ?_
  refine newI (N := 88) hx hb (hts (.arrayClass .int) (by decide +kernel)) hK hP hD hS hA (by decide) (by decide) (by decide) (Nat.le_of_ble_eq_true rfl) (Nat.le_of_ble_eq_true rfl) dX9_init_33 (fun q33 H hP hD hS => ?_)
  have hP : gP Γ [(h, .inr (9, [.int 0, .ref q8, .ref q17, .int 0, .ref q25, .int 0, .int 0, .int 0, .null, .int 0, .long 0])), (q8, .inl (Γ.2.1, 130, .inl (fun _ => 0))), (q17, .inl (Γ.2.1, 780, .inl (fun _ => 0))), (q25, .inl (Γ.2.1, 60, .inl (fun _ => 0))), (q33, .inl (Γ.2.1, 88, .inl (fun _ => 0)))] H := hP
  have hD : va_D A [(h, .inr (9, [.int 0, .ref q8, .ref q17, .int 0, .ref q25, .int 0, .int 0, .int 0, .null, .int 0, .long 0])), (q8, .inl (Γ.2.1, 130, .inl (fun _ => 0))), (q17, .inl (Γ.2.1, 780, .inl (fun _ => 0))), (q25, .inl (Γ.2.1, 60, .inl (fun _ => 0))), (q33, .inl (Γ.2.1, 88, .inl (fun _ => 0)))] := hD
  refine va_putF (D := Γ.1) (ci := 9) (v := .ref q33) (ty := .array .int) (C := RX9) (T := TX9) (N := 11) hx hb hts (by decide +kernel) tyX9 tyX9_ok nmX9 hown hK hP hD hS 0 rfl rfl 8 (by decide) (hts (.fieldLink RX9 19 "RowVeilsModel" "read" "[I") (by decide +kernel)) (fun _ h9 => h9) rfl hin rfl (by decide +kernel) rfl rfl (Nat.le_of_ble_eq_true rfl) dX9_init_35 (fun H locs hP hD hS => ?_)
  have hP : gP Γ [(h, .inr (9, [.int 0, .ref q8, .ref q17, .int 0, .ref q25, .int 0, .int 0, .int 0, .ref q33, .int 0, .long 0])), (q8, .inl (Γ.2.1, 130, .inl (fun _ => 0))), (q17, .inl (Γ.2.1, 780, .inl (fun _ => 0))), (q25, .inl (Γ.2.1, 60, .inl (fun _ => 0))), (q33, .inl (Γ.2.1, 88, .inl (fun _ => 0)))] H := hP
  have hD : va_D A [(h, .inr (9, [.int 0, .ref q8, .ref q17, .int 0, .ref q25, .int 0, .int 0, .int 0, .ref q33, .int 0, .long 0])), (q8, .inl (Γ.2.1, 130, .inl (fun _ => 0))), (q17, .inl (Γ.2.1, 780, .inl (fun _ => 0))), (q25, .inl (Γ.2.1, 60, .inl (fun _ => 0))), (q33, .inl (Γ.2.1, 88, .inl (fun _ => 0)))] := hD
  refine lv_aload_n hx hb dX9_init_38 rfl (lv_at hl 0 rfl) ?_
  refine lv_iconst (v := nI 0) hx hb dX9_init_39 (by decide) ?_
  refine va_put (D := Γ.1) (ci := 9) (v := .int (nI 0)) (ty := .int) (C := RX9) (T := TX9) (N := 11) hx hb hts (by decide +kernel) tyX9 tyX9_ok nmX9 hown hK hP hD hS 0 rfl rfl 0 (by decide) (hts (.fieldLink RX9 22 "RowVeilsModel" "thrown" "I") (by decide +kernel)) (fun _ h9 => h9) rfl (by decide +kernel) rfl rfl (Nat.le_of_ble_eq_true rfl) dX9_init_40 (fun H locs hP hD hS => ?_)
  have hP : gP Γ [(h, .inr (9, [.int (nI 0), .ref q8, .ref q17, .int 0, .ref q25, .int 0, .int 0, .int 0, .ref q33, .int 0, .long 0])), (q8, .inl (Γ.2.1, 130, .inl (fun _ => 0))), (q17, .inl (Γ.2.1, 780, .inl (fun _ => 0))), (q25, .inl (Γ.2.1, 60, .inl (fun _ => 0))), (q33, .inl (Γ.2.1, 88, .inl (fun _ => 0)))] H := hP
  have hD : va_D A [(h, .inr (9, [.int (nI 0), .ref q8, .ref q17, .int 0, .ref q25, .int 0, .int 0, .int 0, .ref q33, .int 0, .long 0])), (q8, .inl (Γ.2.1, 130, .inl (fun _ => 0))), (q17, .inl (Γ.2.1, 780, .inl (fun _ => 0))), (q25, .inl (Γ.2.1, 60, .inl (fun _ => 0))), (q33, .inl (Γ.2.1, 88, .inl (fun _ => 0)))] := hD
  refine lv_aload_n hx hb dX9_init_43 rfl (lv_at hl 0 rfl) ?_
  refine va_get (D := Γ.1) (ci := 9) (v := .ref q8) (C := RX9) (T := TX9) (N := 11) hx hb hts (by decide +kernel) hown hK hP 0 rfl rfl 1 (by decide) (hts (.fieldLink RX9 7 "RowVeilsModel" "s" "[I") (by decide +kernel)) (fun _ h9 => h9) rfl dX9_init_44 ?_
  refine lv_iconst (v := nI 1) hx hb dX9_init_47 (by decide) ?_
  refine lv_bipush (v := nI 15) hx hb dX9_init_48 (by decide) ?_
  refine va_iast hx hb hK hP hD hS 1 0 rfl rfl (vp_in_nI (by omega) (by omega)) dX9_init_50 (fun H locs hP hD hS => ?_)
  have ec : (nI 1).toNatClampNeg = 1 := nI_clamp (by omega)
  rw [ec] at hP hD
  clear ec
  have hP : gP Γ [(h, .inr (9, [.int (nI 0), .ref q8, .ref q17, .int 0, .ref q25, .int 0, .int 0, .int 0, .ref q33, .int 0, .long 0])), (q8, .inl (Γ.2.1, 130, .inl (upd (fun _ => 0) 1 (nI 15)))), (q17, .inl (Γ.2.1, 780, .inl (fun _ => 0))), (q25, .inl (Γ.2.1, 60, .inl (fun _ => 0))), (q33, .inl (Γ.2.1, 88, .inl (fun _ => 0)))] H := hP
  have hD : va_D A [(h, .inr (9, [.int (nI 0), .ref q8, .ref q17, .int 0, .ref q25, .int 0, .int 0, .int 0, .ref q33, .int 0, .long 0])), (q8, .inl (Γ.2.1, 130, .inl (upd (fun _ => 0) 1 (nI 15)))), (q17, .inl (Γ.2.1, 780, .inl (fun _ => 0))), (q25, .inl (Γ.2.1, 60, .inl (fun _ => 0))), (q33, .inl (Γ.2.1, 88, .inl (fun _ => 0)))] := hD
  refine lv_aload_n hx hb dX9_init_51 rfl (lv_at hl 0 rfl) ?_
  refine va_get (D := Γ.1) (ci := 9) (v := .ref q8) (C := RX9) (T := TX9) (N := 11) hx hb hts (by decide +kernel) hown hK hP 0 rfl rfl 1 (by decide) (hts (.fieldLink RX9 7 "RowVeilsModel" "s" "[I") (by decide +kernel)) (fun _ h9 => h9) rfl dX9_init_52 ?_
  refine lv_iconst (v := nI 2) hx hb dX9_init_55 (by decide) ?_
  refine lv_iconst (v := nI 1) hx hb dX9_init_56 (by decide) ?_
  refine va_iast hx hb hK hP hD hS 1 0 rfl rfl (vp_in_nI (by omega) (by omega)) dX9_init_57 (fun H locs hP hD hS => ?_)
  have ec : (nI 2).toNatClampNeg = 2 := nI_clamp (by omega)
  rw [ec] at hP hD
  clear ec
  have hP : gP Γ [(h, .inr (9, [.int (nI 0), .ref q8, .ref q17, .int 0, .ref q25, .int 0, .int 0, .int 0, .ref q33, .int 0, .long 0])), (q8, .inl (Γ.2.1, 130, .inl (upd (upd (fun _ => 0) 1 (nI 15)) 2 (nI 1)))), (q17, .inl (Γ.2.1, 780, .inl (fun _ => 0))), (q25, .inl (Γ.2.1, 60, .inl (fun _ => 0))), (q33, .inl (Γ.2.1, 88, .inl (fun _ => 0)))] H := hP
  have hD : va_D A [(h, .inr (9, [.int (nI 0), .ref q8, .ref q17, .int 0, .ref q25, .int 0, .int 0, .int 0, .ref q33, .int 0, .long 0])), (q8, .inl (Γ.2.1, 130, .inl (upd (upd (fun _ => 0) 1 (nI 15)) 2 (nI 1)))), (q17, .inl (Γ.2.1, 780, .inl (fun _ => 0))), (q25, .inl (Γ.2.1, 60, .inl (fun _ => 0))), (q33, .inl (Γ.2.1, 88, .inl (fun _ => 0)))] := hD
  refine lv_aload_n hx hb dX9_init_58 rfl (lv_at hl 0 rfl) ?_
  refine va_get (D := Γ.1) (ci := 9) (v := .ref q8) (C := RX9) (T := TX9) (N := 11) hx hb hts (by decide +kernel) hown hK hP 0 rfl rfl 1 (by decide) (hts (.fieldLink RX9 7 "RowVeilsModel" "s" "[I") (by decide +kernel)) (fun _ h9 => h9) rfl dX9_init_59 ?_
  refine lv_iconst (v := nI 3) hx hb dX9_init_62 (by decide) ?_
  refine lv_iconst (v := nI 1) hx hb dX9_init_63 (by decide) ?_
  refine va_iast hx hb hK hP hD hS 1 0 rfl rfl (vp_in_nI (by omega) (by omega)) dX9_init_64 (fun H locs hP hD hS => ?_)
  have ec : (nI 3).toNatClampNeg = 3 := nI_clamp (by omega)
  rw [ec] at hP hD
  clear ec
  have hP : gP Γ [(h, .inr (9, [.int (nI 0), .ref q8, .ref q17, .int 0, .ref q25, .int 0, .int 0, .int 0, .ref q33, .int 0, .long 0])), (q8, .inl (Γ.2.1, 130, .inl (upd (upd (upd (fun _ => 0) 1 (nI 15)) 2 (nI 1)) 3 (nI 1)))), (q17, .inl (Γ.2.1, 780, .inl (fun _ => 0))), (q25, .inl (Γ.2.1, 60, .inl (fun _ => 0))), (q33, .inl (Γ.2.1, 88, .inl (fun _ => 0)))] H := hP
  have hD : va_D A [(h, .inr (9, [.int (nI 0), .ref q8, .ref q17, .int 0, .ref q25, .int 0, .int 0, .int 0, .ref q33, .int 0, .long 0])), (q8, .inl (Γ.2.1, 130, .inl (upd (upd (upd (fun _ => 0) 1 (nI 15)) 2 (nI 1)) 3 (nI 1)))), (q17, .inl (Γ.2.1, 780, .inl (fun _ => 0))), (q25, .inl (Γ.2.1, 60, .inl (fun _ => 0))), (q33, .inl (Γ.2.1, 88, .inl (fun _ => 0)))] := hD
  refine W.widen (k := 4) (n := 1058) (Nat.le_of_ble_eq_true rfl) (Nat.le_of_ble_eq_true rfl) ?_
  exact W.vret hx hb hrt (fun t9 ht9 hW9 => ⟨⟨(fun k => ([h, q8, q17, q25, q33] : List Nat).getD k 0), rfl, rfl, wd_end hK hP hD [0, 1, 2, 3, 4] (by decide) rfl t9 ht9 hW9⟩, hS.F ht9⟩) hS.2.2 dX9_init_65 hlk

