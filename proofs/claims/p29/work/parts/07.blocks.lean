abbrev rm_X5_isFull : Room := { frames := 0, cells := 0, slots := 0, locals := 0 }
theorem k_X5_isFull : Cal yX5_isFull wsX5_isFull rm_X5_isFull cX5_isFull 1 (some .boolean) 0 0 0 := ⟨⟨_, rfl⟩, rfl, rfl, by decide +kernel⟩
set_option maxHeartbeats 4000000 in
set_option maxRecDepth 100000 in
theorem m_X5_isFull (l : Launch) (Γ : Gm) (a : Nat → Nat) (f : Nat → Nat → Int32) (n : Nat) (hn : n ≤ 16) (z : Int32) (hz : z = nI n)  : MRi l yX5_isFull wsX5_isFull rm_X5_isFull Γ [(a 0, .inr (5, [.ref (a 1), .ref (a 3), .ref (a 5), .ref (a 7), .int z])), (a 1, .inr (3, [.ref (a 2)])), (a 2, .inl (Γ.2.1, 16, .inl (f 0))), (a 3, .inr (3, [.ref (a 4)])), (a 4, .inl (Γ.2.1, 16, .inl (f 1))), (a 5, .inr (3, [.ref (a 6)])), (a 6, .inl (Γ.2.1, 16, .inl (f 2))), (a 7, .inr (3, [.ref (a 8)])), (a 8, .inl (Γ.2.1, 16, .inl (f 3)))] [.ref (a 0)] (fun r => r = bI (decide (n = 16))) := by
  refine mR (cc := cX5_isFull) (maxL := 1) (ret := (some .boolean)) (own := RX5) (by decide) rfl rfl (Nat.le_of_ble_eq_true rfl) ?_
  intro p e s m args below meth c S hrt hlk hK hP ls hl
  obtain ⟨hx, hb, hml, hown, hts⟩ := id S
  have hl : lv_has ls 1 [(0, .ref (a 0))] := hl
  have hP : gP Γ [(a 0, .inr (5, [.ref (a 1), .ref (a 3), .ref (a 5), .ref (a 7), .int z])), (a 1, .inr (3, [.ref (a 2)])), (a 2, .inl (Γ.2.1, 16, .inl (f 0))), (a 3, .inr (3, [.ref (a 4)])), (a 4, .inl (Γ.2.1, 16, .inl (f 1))), (a 5, .inr (3, [.ref (a 6)])), (a 6, .inl (Γ.2.1, 16, .inl (f 2))), (a 7, .inr (3, [.ref (a 8)])), (a 8, .inl (Γ.2.1, 16, .inl (f 3)))] s.heap := hP
  refine lv_aload_n hx hb dX5_isFull_0 rfl (lv_at hl 0 rfl) ?_
  refine va_get (D := Γ.1) (ci := 5) (v := .int z) (C := RX5) (T := TX5) (N := 5) hx hb hts (by decide +kernel) hown hK hP 0 rfl rfl 4 (by decide) (hts (.fieldLink RX5 29 "RowVeils$Rows" "size" "I") (by decide +kernel)) (fun _ h9 => h9) rfl dX5_isFull_1 ?_
  refine asi (z := nI n) hz ?_
  refine lv_bipush (v := nI 16) hx hb dX5_isFull_4 (by decide) ?_
  refine lv_icmp_lt (tgt := 13) hx hb dX5_isFull_6 (by decide) (fun c_6 => ?_) (fun c_6 => ?_)
  · have n_6 := (nI_ltI (a := n) (b := 16) (by omega) (by omega)).mp c_6
    refine lv_iconst (v := nI 0) hx hb dX5_isFull_13 (by decide) ?_
    exact W.zret (v := nI 0) hx hb hrt (z0) (fun t9 ht9 hW9 => ⟨_, rfl, bf (decide_eq_false (by omega)), ht9⟩) (fun _ h9 => nomatch h9) dX5_isFull_14 hlk
  · have n_6 := (not_congr (nI_ltI (a := n) (b := 16) (by omega) (by omega))).mp c_6
    refine lv_iconst (v := nI 1) hx hb dX5_isFull_9 (by decide) ?_
    refine lv_goto (tgt := 14) hx hb dX5_isFull_10 (by decide) ?_
    exact W.zret (v := nI 1) hx hb hrt (z1) (fun t9 ht9 hW9 => ⟨_, rfl, bt (decide_eq_true (by omega)), ht9⟩) (fun _ h9 => nomatch h9) dX5_isFull_14 hlk

abbrev rm_X5_place : Room := { frames := 1, cells := 0, slots := 0, locals := 22 }
theorem k_X5_place : Cal yX5_place wsX5_place rm_X5_place cX5_place 5 none 4 0 0 := ⟨⟨_, rfl⟩, rfl, rfl, by decide +kernel⟩
set_option maxHeartbeats 4000000 in
set_option maxRecDepth 100000 in
theorem m_X5_place (l : Launch) (Γ : Gm) (sz : Nat) (a : Nat → Nat) (f : Nat → Nat → Int32) (n : Nat) (hn : n < 16) (z : Int32) (hz : z = nI n) (v0 v1 v2 v3 : Int32) : MWv (S := Unit) l yX5_place wsX5_place rm_X5_place Γ sz [(a 0, .inr (5, [.ref (a 1), .ref (a 3), .ref (a 5), .ref (a 7), .int z])), (a 1, .inr (3, [.ref (a 2)])), (a 2, .inl (Γ.2.1, 16, .inl (f 0))), (a 3, .inr (3, [.ref (a 4)])), (a 4, .inl (Γ.2.1, 16, .inl (f 1))), (a 5, .inr (3, [.ref (a 6)])), (a 6, .inl (Γ.2.1, 16, .inl (f 2))), (a 7, .inr (3, [.ref (a 8)])), (a 8, .inl (Γ.2.1, 16, .inl (f 3)))] [.ref (a 0), .int v0, .int v1, .int v2, .int v3] (fun u => True) (fun u => [(a 0, .inr (5, [.ref (a 1), .ref (a 3), .ref (a 5), .ref (a 7), .int (nI (n + 1))])), (a 1, .inr (3, [.ref (a 2)])), (a 2, .inl (Γ.2.1, 16, .inl (upd (f 0) n v0))), (a 3, .inr (3, [.ref (a 4)])), (a 4, .inl (Γ.2.1, 16, .inl (upd (f 1) n v1))), (a 5, .inr (3, [.ref (a 6)])), (a 6, .inl (Γ.2.1, 16, .inl (upd (f 2) n v2))), (a 7, .inr (3, [.ref (a 8)])), (a 8, .inl (Γ.2.1, 16, .inl (upd (f 3) n v3)))]) 0 0 := by
  refine mW (cc := cX5_place) (maxL := 5) (ret := none) (own := RX5) (by decide) rfl rfl (Nat.le_of_ble_eq_true rfl) ?_
  intro p e s m args below meth c S hrt hlk hin hsz hK hP hD hA hS ls hl
  subst hsz
  generalize hAe : va_A ([(a 0, .inr (5, [.ref (a 1), .ref (a 3), .ref (a 5), .ref (a 7), .int z])), (a 1, .inr (3, [.ref (a 2)])), (a 2, .inl (Γ.2.1, 16, .inl (f 0))), (a 3, .inr (3, [.ref (a 4)])), (a 4, .inl (Γ.2.1, 16, .inl (f 1))), (a 5, .inr (3, [.ref (a 6)])), (a 6, .inl (Γ.2.1, 16, .inl (f 2))), (a 7, .inr (3, [.ref (a 8)])), (a 8, .inl (Γ.2.1, 16, .inl (f 3)))]) s.heap.size = A at hD hA hS ⊢
  obtain ⟨hx, hb, hml, hown, hts⟩ := id S
  have hl : lv_has ls 5 [(0, .ref (a 0)), (1, .int v0), (2, .int v1), (3, .int v2), (4, .int v3)] := hl
  have hH : s.heap = s.heap := rfl
  refine lv_aload_n hx hb dX5_place_0 rfl (lv_at hl 0 rfl) ?_
  refine va_get (D := Γ.1) (ci := 5) (v := .ref (a 1)) (C := RX5) (T := TX5) (N := 5) hx hb hts (by decide +kernel) hown hK hP 0 rfl rfl 0 (by decide) (hts (.fieldLink RX5 14 "RowVeils$Rows" "owners" "LRowVeils$Numbers;") (by decide +kernel)) (fun _ h9 => h9) rfl dX5_place_1 ?_
  refine lv_aload_n hx hb dX5_place_4 rfl (lv_at hl 0 rfl) ?_
  refine va_get (D := Γ.1) (ci := 5) (v := .int z) (C := RX5) (T := TX5) (N := 5) hx hb hts (by decide +kernel) hown hK hP 0 rfl rfl 4 (by decide) (hts (.fieldLink RX5 29 "RowVeils$Rows" "size" "I") (by decide +kernel)) (fun _ h9 => h9) rfl dX5_place_5 ?_
  refine asi (z := nI n) hz ?_
  refine lv_iload_n hx hb dX5_place_8 rfl (lv_at hl 1 rfl) ?_
  refine cWv (As := [.int (nI n), .int v0]) (rest := []) (wr := [(a 0, .inr (5, [.ref (a 1), .ref (a 3), .ref (a 5), .ref (a 7), .int z])), (a 3, .inr (3, [.ref (a 4)])), (a 4, .inl (Γ.2.1, 16, .inl (f 1))), (a 5, .inr (3, [.ref (a 6)])), (a 6, .inl (Γ.2.1, 16, .inl (f 2))), (a 7, .inr (3, [.ref (a 8)])), (a 8, .inl (Γ.2.1, 16, .inl (f 3)))]) (m_X3_put l Γ _ (a 1) (a 2) 16 n (f 0) (by decide) (by omega) v0) S k_X3_put gX5_place_X3_put rfl ⟨Nat.le_of_ble_eq_true rfl, Nat.le_of_ble_eq_true rfl⟩ hK hP hD hS hA [1, 2] [0, 3, 4, 5, 6, 7, 8] rfl rfl (by decide) (by decide) (by decide) 0 (ci := 3) rfl rfl rfl rfl hl.1 (Nat.le_of_ble_eq_true rfl) rfl dX5_place_9 ⟨Nat.le_of_ble_eq_true rfl, Nat.le_of_ble_eq_true rfl⟩ (fun u H locs hr hP hD hS => ?_)
  have hP : gP Γ [(a 0, .inr (5, [.ref (a 1), .ref (a 3), .ref (a 5), .ref (a 7), .int z])), (a 3, .inr (3, [.ref (a 4)])), (a 4, .inl (Γ.2.1, 16, .inl (f 1))), (a 5, .inr (3, [.ref (a 6)])), (a 6, .inl (Γ.2.1, 16, .inl (f 2))), (a 7, .inr (3, [.ref (a 8)])), (a 8, .inl (Γ.2.1, 16, .inl (f 3))), (a 1, .inr (3, [.ref (a 2)])), (a 2, .inl (Γ.2.1, 16, .inl (upd (f 0) n v0)))] H := hP
  have hD : va_D A [(a 0, .inr (5, [.ref (a 1), .ref (a 3), .ref (a 5), .ref (a 7), .int z])), (a 3, .inr (3, [.ref (a 4)])), (a 4, .inl (Γ.2.1, 16, .inl (f 1))), (a 5, .inr (3, [.ref (a 6)])), (a 6, .inl (Γ.2.1, 16, .inl (f 2))), (a 7, .inr (3, [.ref (a 8)])), (a 8, .inl (Γ.2.1, 16, .inl (f 3))), (a 1, .inr (3, [.ref (a 2)])), (a 2, .inl (Γ.2.1, 16, .inl (upd (f 0) n v0)))] := hD
  refine lv_aload_n hx hb dX5_place_12 rfl (lv_at hl 0 rfl) ?_
  refine va_get (D := Γ.1) (ci := 5) (v := .ref (a 3)) (C := RX5) (T := TX5) (N := 5) hx hb hts (by decide +kernel) hown hK hP 0 rfl rfl 1 (by decide) (hts (.fieldLink RX5 20 "RowVeils$Rows" "places" "LRowVeils$Numbers;") (by decide +kernel)) (fun _ h9 => h9) rfl dX5_place_13 ?_
  refine lv_aload_n hx hb dX5_place_16 rfl (lv_at hl 0 rfl) ?_
  refine va_get (D := Γ.1) (ci := 5) (v := .int z) (C := RX5) (T := TX5) (N := 5) hx hb hts (by decide +kernel) hown hK hP 0 rfl rfl 4 (by decide) (hts (.fieldLink RX5 29 "RowVeils$Rows" "size" "I") (by decide +kernel)) (fun _ h9 => h9) rfl dX5_place_17 ?_
  refine asi (z := nI n) hz ?_
  refine lv_iload_n hx hb dX5_place_20 rfl (lv_at hl 2 rfl) ?_
  refine cWv (As := [.int (nI n), .int v1]) (rest := []) (wr := [(a 0, .inr (5, [.ref (a 1), .ref (a 3), .ref (a 5), .ref (a 7), .int z])), (a 5, .inr (3, [.ref (a 6)])), (a 6, .inl (Γ.2.1, 16, .inl (f 2))), (a 7, .inr (3, [.ref (a 8)])), (a 8, .inl (Γ.2.1, 16, .inl (f 3))), (a 1, .inr (3, [.ref (a 2)])), (a 2, .inl (Γ.2.1, 16, .inl (upd (f 0) n v0)))]) (m_X3_put l Γ _ (a 3) (a 4) 16 n (f 1) (by decide) (by omega) v1) S k_X3_put gX5_place_X3_put rfl ⟨Nat.le_of_ble_eq_true rfl, Nat.le_of_ble_eq_true rfl⟩ hK hP hD hS hA [1, 2] [0, 3, 4, 5, 6, 7, 8] rfl rfl (by decide) (by decide) (by decide) 0 (ci := 3) rfl rfl rfl rfl hl.1 (Nat.le_of_ble_eq_true rfl) rfl dX5_place_21 ⟨Nat.le_of_ble_eq_true rfl, Nat.le_of_ble_eq_true rfl⟩ (fun u H locs hr hP hD hS => ?_)
  have hP : gP Γ [(a 0, .inr (5, [.ref (a 1), .ref (a 3), .ref (a 5), .ref (a 7), .int z])), (a 5, .inr (3, [.ref (a 6)])), (a 6, .inl (Γ.2.1, 16, .inl (f 2))), (a 7, .inr (3, [.ref (a 8)])), (a 8, .inl (Γ.2.1, 16, .inl (f 3))), (a 1, .inr (3, [.ref (a 2)])), (a 2, .inl (Γ.2.1, 16, .inl (upd (f 0) n v0))), (a 3, .inr (3, [.ref (a 4)])), (a 4, .inl (Γ.2.1, 16, .inl (upd (f 1) n v1)))] H := hP
  have hD : va_D A [(a 0, .inr (5, [.ref (a 1), .ref (a 3), .ref (a 5), .ref (a 7), .int z])), (a 5, .inr (3, [.ref (a 6)])), (a 6, .inl (Γ.2.1, 16, .inl (f 2))), (a 7, .inr (3, [.ref (a 8)])), (a 8, .inl (Γ.2.1, 16, .inl (f 3))), (a 1, .inr (3, [.ref (a 2)])), (a 2, .inl (Γ.2.1, 16, .inl (upd (f 0) n v0))), (a 3, .inr (3, [.ref (a 4)])), (a 4, .inl (Γ.2.1, 16, .inl (upd (f 1) n v1)))] := hD
  refine lv_aload_n hx hb dX5_place_24 rfl (lv_at hl 0 rfl) ?_
  refine va_get (D := Γ.1) (ci := 5) (v := .ref (a 5)) (C := RX5) (T := TX5) (N := 5) hx hb hts (by decide +kernel) hown hK hP 0 rfl rfl 2 (by decide) (hts (.fieldLink RX5 23 "RowVeils$Rows" "values" "LRowVeils$Numbers;") (by decide +kernel)) (fun _ h9 => h9) rfl dX5_place_25 ?_
  refine lv_aload_n hx hb dX5_place_28 rfl (lv_at hl 0 rfl) ?_
  refine va_get (D := Γ.1) (ci := 5) (v := .int z) (C := RX5) (T := TX5) (N := 5) hx hb hts (by decide +kernel) hown hK hP 0 rfl rfl 4 (by decide) (hts (.fieldLink RX5 29 "RowVeils$Rows" "size" "I") (by decide +kernel)) (fun _ h9 => h9) rfl dX5_place_29 ?_
  refine asi (z := nI n) hz ?_
  refine lv_iload_n hx hb dX5_place_32 rfl (lv_at hl 3 rfl) ?_
  refine cWv (As := [.int (nI n), .int v2]) (rest := []) (wr := [(a 0, .inr (5, [.ref (a 1), .ref (a 3), .ref (a 5), .ref (a 7), .int z])), (a 7, .inr (3, [.ref (a 8)])), (a 8, .inl (Γ.2.1, 16, .inl (f 3))), (a 1, .inr (3, [.ref (a 2)])), (a 2, .inl (Γ.2.1, 16, .inl (upd (f 0) n v0))), (a 3, .inr (3, [.ref (a 4)])), (a 4, .inl (Γ.2.1, 16, .inl (upd (f 1) n v1)))]) (m_X3_put l Γ _ (a 5) (a 6) 16 n (f 2) (by decide) (by omega) v2) S k_X3_put gX5_place_X3_put rfl ⟨Nat.le_of_ble_eq_true rfl, Nat.le_of_ble_eq_true rfl⟩ hK hP hD hS hA [1, 2] [0, 3, 4, 5, 6, 7, 8] rfl rfl (by decide) (by decide) (by decide) 0 (ci := 3) rfl rfl rfl rfl hl.1 (Nat.le_of_ble_eq_true rfl) rfl dX5_place_33 ⟨Nat.le_of_ble_eq_true rfl, Nat.le_of_ble_eq_true rfl⟩ (fun u H locs hr hP hD hS => ?_)
  have hP : gP Γ [(a 0, .inr (5, [.ref (a 1), .ref (a 3), .ref (a 5), .ref (a 7), .int z])), (a 7, .inr (3, [.ref (a 8)])), (a 8, .inl (Γ.2.1, 16, .inl (f 3))), (a 1, .inr (3, [.ref (a 2)])), (a 2, .inl (Γ.2.1, 16, .inl (upd (f 0) n v0))), (a 3, .inr (3, [.ref (a 4)])), (a 4, .inl (Γ.2.1, 16, .inl (upd (f 1) n v1))), (a 5, .inr (3, [.ref (a 6)])), (a 6, .inl (Γ.2.1, 16, .inl (upd (f 2) n v2)))] H := hP
  have hD : va_D A [(a 0, .inr (5, [.ref (a 1), .ref (a 3), .ref (a 5), .ref (a 7), .int z])), (a 7, .inr (3, [.ref (a 8)])), (a 8, .inl (Γ.2.1, 16, .inl (f 3))), (a 1, .inr (3, [.ref (a 2)])), (a 2, .inl (Γ.2.1, 16, .inl (upd (f 0) n v0))), (a 3, .inr (3, [.ref (a 4)])), (a 4, .inl (Γ.2.1, 16, .inl (upd (f 1) n v1))), (a 5, .inr (3, [.ref (a 6)])), (a 6, .inl (Γ.2.1, 16, .inl (upd (f 2) n v2)))] := hD
  refine lv_aload_n hx hb dX5_place_36 rfl (lv_at hl 0 rfl) ?_
  refine va_get (D := Γ.1) (ci := 5) (v := .ref (a 7)) (C := RX5) (T := TX5) (N := 5) hx hb hts (by decide +kernel) hown hK hP 0 rfl rfl 3 (by decide) (hts (.fieldLink RX5 26 "RowVeils$Rows" "secrecies" "LRowVeils$Numbers;") (by decide +kernel)) (fun _ h9 => h9) rfl dX5_place_37 ?_
  refine lv_aload_n hx hb dX5_place_40 rfl (lv_at hl 0 rfl) ?_
  refine va_get (D := Γ.1) (ci := 5) (v := .int z) (C := RX5) (T := TX5) (N := 5) hx hb hts (by decide +kernel) hown hK hP 0 rfl rfl 4 (by decide) (hts (.fieldLink RX5 29 "RowVeils$Rows" "size" "I") (by decide +kernel)) (fun _ h9 => h9) rfl dX5_place_41 ?_
  refine asi (z := nI n) hz ?_
  refine lv_iload hx hb dX5_place_44 (lv_at hl 4 rfl) ?_
  refine cWv (As := [.int (nI n), .int v3]) (rest := []) (wr := [(a 0, .inr (5, [.ref (a 1), .ref (a 3), .ref (a 5), .ref (a 7), .int z])), (a 1, .inr (3, [.ref (a 2)])), (a 2, .inl (Γ.2.1, 16, .inl (upd (f 0) n v0))), (a 3, .inr (3, [.ref (a 4)])), (a 4, .inl (Γ.2.1, 16, .inl (upd (f 1) n v1))), (a 5, .inr (3, [.ref (a 6)])), (a 6, .inl (Γ.2.1, 16, .inl (upd (f 2) n v2)))]) (m_X3_put l Γ _ (a 7) (a 8) 16 n (f 3) (by decide) (by omega) v3) S k_X3_put gX5_place_X3_put rfl ⟨Nat.le_of_ble_eq_true rfl, Nat.le_of_ble_eq_true rfl⟩ hK hP hD hS hA [1, 2] [0, 3, 4, 5, 6, 7, 8] rfl rfl (by decide) (by decide) (by decide) 0 (ci := 3) rfl rfl rfl rfl hl.1 (Nat.le_of_ble_eq_true rfl) rfl dX5_place_46 ⟨Nat.le_of_ble_eq_true rfl, Nat.le_of_ble_eq_true rfl⟩ (fun u H locs hr hP hD hS => ?_)
  have hP : gP Γ [(a 0, .inr (5, [.ref (a 1), .ref (a 3), .ref (a 5), .ref (a 7), .int z])), (a 1, .inr (3, [.ref (a 2)])), (a 2, .inl (Γ.2.1, 16, .inl (upd (f 0) n v0))), (a 3, .inr (3, [.ref (a 4)])), (a 4, .inl (Γ.2.1, 16, .inl (upd (f 1) n v1))), (a 5, .inr (3, [.ref (a 6)])), (a 6, .inl (Γ.2.1, 16, .inl (upd (f 2) n v2))), (a 7, .inr (3, [.ref (a 8)])), (a 8, .inl (Γ.2.1, 16, .inl (upd (f 3) n v3)))] H := hP
  have hD : va_D A [(a 0, .inr (5, [.ref (a 1), .ref (a 3), .ref (a 5), .ref (a 7), .int z])), (a 1, .inr (3, [.ref (a 2)])), (a 2, .inl (Γ.2.1, 16, .inl (upd (f 0) n v0))), (a 3, .inr (3, [.ref (a 4)])), (a 4, .inl (Γ.2.1, 16, .inl (upd (f 1) n v1))), (a 5, .inr (3, [.ref (a 6)])), (a 6, .inl (Γ.2.1, 16, .inl (upd (f 2) n v2))), (a 7, .inr (3, [.ref (a 8)])), (a 8, .inl (Γ.2.1, 16, .inl (upd (f 3) n v3)))] := hD
  refine lv_aload_n hx hb dX5_place_49 rfl (lv_at hl 0 rfl) ?_
  refine lv_dup hx hb dX5_place_50 rfl ?_
  refine va_get (D := Γ.1) (ci := 5) (v := .int z) (C := RX5) (T := TX5) (N := 5) hx hb hts (by decide +kernel) hown hK hP 0 rfl rfl 4 (by decide) (hts (.fieldLink RX5 29 "RowVeils$Rows" "size" "I") (by decide +kernel)) (fun _ h9 => h9) rfl dX5_place_51 ?_
  refine asi (z := nI n) hz ?_
  refine lv_iconst (v := nI 1) hx hb dX5_place_54 (by decide) ?_
  refine lv_iadd hx hb dX5_place_55 ?_
  refine asi (z := nI (n + 1)) (nI_add _ _) ?_
  refine va_put (D := Γ.1) (ci := 5) (v := .int (nI (n + 1))) (ty := .int) (C := RX5) (T := TX5) (N := 5) hx hb hts (by decide +kernel) tyX5 tyX5_ok nmX5 hown hK hP hD hS 0 rfl rfl 4 (by decide) (hts (.fieldLink RX5 29 "RowVeils$Rows" "size" "I") (by decide +kernel)) (fun _ h9 => h9) rfl (by decide +kernel) rfl rfl (Nat.le_of_ble_eq_true rfl) dX5_place_56 (fun H locs hP hD hS => ?_)
  have hP : gP Γ [(a 0, .inr (5, [.ref (a 1), .ref (a 3), .ref (a 5), .ref (a 7), .int (nI (n + 1))])), (a 1, .inr (3, [.ref (a 2)])), (a 2, .inl (Γ.2.1, 16, .inl (upd (f 0) n v0))), (a 3, .inr (3, [.ref (a 4)])), (a 4, .inl (Γ.2.1, 16, .inl (upd (f 1) n v1))), (a 5, .inr (3, [.ref (a 6)])), (a 6, .inl (Γ.2.1, 16, .inl (upd (f 2) n v2))), (a 7, .inr (3, [.ref (a 8)])), (a 8, .inl (Γ.2.1, 16, .inl (upd (f 3) n v3)))] H := hP
  have hD : va_D A [(a 0, .inr (5, [.ref (a 1), .ref (a 3), .ref (a 5), .ref (a 7), .int (nI (n + 1))])), (a 1, .inr (3, [.ref (a 2)])), (a 2, .inl (Γ.2.1, 16, .inl (upd (f 0) n v0))), (a 3, .inr (3, [.ref (a 4)])), (a 4, .inl (Γ.2.1, 16, .inl (upd (f 1) n v1))), (a 5, .inr (3, [.ref (a 6)])), (a 6, .inl (Γ.2.1, 16, .inl (upd (f 2) n v2))), (a 7, .inr (3, [.ref (a 8)])), (a 8, .inl (Γ.2.1, 16, .inl (upd (f 3) n v3)))] := hD
  exact W.vret hx hb hrt (fun t9 ht9 hW9 => ⟨⟨(), rfl, trivial, wd_end hK hP hD [0, 1, 2, 3, 4, 5, 6, 7, 8] (by decide) rfl t9 ht9 hW9⟩, hS.F ht9⟩) hS.2.2 dX5_place_59 hlk

abbrev rm_X5_takeOut : Room := { frames := 2, cells := 0, slots := 0, locals := 45 }
theorem k_X5_takeOut : Cal yX5_takeOut wsX5_takeOut rm_X5_takeOut cX5_takeOut 2 none 1 0 0 := ⟨⟨_, rfl⟩, rfl, rfl, by decide +kernel⟩
set_option maxHeartbeats 4000000 in
set_option maxRecDepth 100000 in
theorem m_X5_takeOut (l : Launch) (Γ : Gm) (sz : Nat) (a : Nat → Nat) (f : Nat → Nat → Int32) (n i : Nat) (hn : n ≤ 16) (hi : i < n) (z : Int32) (hz : z = nI n)  : MWv (S := Unit) l yX5_takeOut wsX5_takeOut rm_X5_takeOut Γ sz [(a 0, .inr (5, [.ref (a 1), .ref (a 3), .ref (a 5), .ref (a 7), .int z])), (a 1, .inr (3, [.ref (a 2)])), (a 2, .inl (Γ.2.1, 16, .inl (f 0))), (a 3, .inr (3, [.ref (a 4)])), (a 4, .inl (Γ.2.1, 16, .inl (f 1))), (a 5, .inr (3, [.ref (a 6)])), (a 6, .inl (Γ.2.1, 16, .inl (f 2))), (a 7, .inr (3, [.ref (a 8)])), (a 8, .inl (Γ.2.1, 16, .inl (f 3)))] [.ref (a 0), .int (nI i)] (fun u => True) (fun u => [(a 0, .inr (5, [.ref (a 1), .ref (a 3), .ref (a 5), .ref (a 7), .int (nI (n - 1))])), (a 1, .inr (3, [.ref (a 2)])), (a 2, .inl (Γ.2.1, 16, .inl (gapk (f 0) i (n - 1)))), (a 3, .inr (3, [.ref (a 4)])), (a 4, .inl (Γ.2.1, 16, .inl (gapk (f 1) i (n - 1)))), (a 5, .inr (3, [.ref (a 6)])), (a 6, .inl (Γ.2.1, 16, .inl (gapk (f 2) i (n - 1)))), (a 7, .inr (3, [.ref (a 8)])), (a 8, .inl (Γ.2.1, 16, .inl (gapk (f 3) i (n - 1))))]) 0 0 := by
  refine mW (cc := cX5_takeOut) (maxL := 2) (ret := none) (own := RX5) (by decide) rfl rfl (Nat.le_of_ble_eq_true rfl) ?_
  intro p e s m args below meth c S hrt hlk hin hsz hK hP hD hA hS ls hl
  subst hsz
  generalize hAe : va_A ([(a 0, .inr (5, [.ref (a 1), .ref (a 3), .ref (a 5), .ref (a 7), .int z])), (a 1, .inr (3, [.ref (a 2)])), (a 2, .inl (Γ.2.1, 16, .inl (f 0))), (a 3, .inr (3, [.ref (a 4)])), (a 4, .inl (Γ.2.1, 16, .inl (f 1))), (a 5, .inr (3, [.ref (a 6)])), (a 6, .inl (Γ.2.1, 16, .inl (f 2))), (a 7, .inr (3, [.ref (a 8)])), (a 8, .inl (Γ.2.1, 16, .inl (f 3)))]) s.heap.size = A at hD hA hS ⊢
  obtain ⟨hx, hb, hml, hown, hts⟩ := id S
  have hl : lv_has ls 2 [(0, .ref (a 0)), (1, .int (nI i))] := hl
  have hH : s.heap = s.heap := rfl
  refine lv_aload_n hx hb dX5_takeOut_0 rfl (lv_at hl 0 rfl) ?_
  refine va_get (D := Γ.1) (ci := 5) (v := .ref (a 1)) (C := RX5) (T := TX5) (N := 5) hx hb hts (by decide +kernel) hown hK hP 0 rfl rfl 0 (by decide) (hts (.fieldLink RX5 14 "RowVeils$Rows" "owners" "LRowVeils$Numbers;") (by decide +kernel)) (fun _ h9 => h9) rfl dX5_takeOut_1 ?_
  refine lv_iload_n hx hb dX5_takeOut_4 rfl (lv_at hl 1 rfl) ?_
  refine lv_aload_n hx hb dX5_takeOut_5 rfl (lv_at hl 0 rfl) ?_
  refine va_get (D := Γ.1) (ci := 5) (v := .int z) (C := RX5) (T := TX5) (N := 5) hx hb hts (by decide +kernel) hown hK hP 0 rfl rfl 4 (by decide) (hts (.fieldLink RX5 29 "RowVeils$Rows" "size" "I") (by decide +kernel)) (fun _ h9 => h9) rfl dX5_takeOut_6 ?_
  refine asi (z := nI n) hz ?_
  refine cWv (As := [.int (nI i), .int (nI n)]) (rest := []) (wr := [(a 0, .inr (5, [.ref (a 1), .ref (a 3), .ref (a 5), .ref (a 7), .int z])), (a 3, .inr (3, [.ref (a 4)])), (a 4, .inl (Γ.2.1, 16, .inl (f 1))), (a 5, .inr (3, [.ref (a 6)])), (a 6, .inl (Γ.2.1, 16, .inl (f 2))), (a 7, .inr (3, [.ref (a 8)])), (a 8, .inl (Γ.2.1, 16, .inl (f 3)))]) (m_X3_closeGap l Γ _ (a 1) (a 2) 16 i n (f 0) (by decide) (by omega) (by omega) (by omega)) S k_X3_closeGap gX5_takeOut_X3_closeGap rfl ⟨Nat.le_of_ble_eq_true rfl, Nat.le_of_ble_eq_true rfl⟩ hK hP hD hS hA [1, 2] [0, 3, 4, 5, 6, 7, 8] rfl rfl (by decide) (by decide) (by decide) 0 (ci := 3) rfl rfl rfl rfl hl.1 (Nat.le_of_ble_eq_true rfl) rfl dX5_takeOut_9 ⟨Nat.le_of_ble_eq_true rfl, Nat.le_of_ble_eq_true rfl⟩ (fun u H locs hr hP hD hS => ?_)
  have hP : gP Γ [(a 0, .inr (5, [.ref (a 1), .ref (a 3), .ref (a 5), .ref (a 7), .int z])), (a 3, .inr (3, [.ref (a 4)])), (a 4, .inl (Γ.2.1, 16, .inl (f 1))), (a 5, .inr (3, [.ref (a 6)])), (a 6, .inl (Γ.2.1, 16, .inl (f 2))), (a 7, .inr (3, [.ref (a 8)])), (a 8, .inl (Γ.2.1, 16, .inl (f 3))), (a 1, .inr (3, [.ref (a 2)])), (a 2, .inl (Γ.2.1, 16, .inl (gapk (f 0) i (n - 1))))] H := hP
  have hD : va_D A [(a 0, .inr (5, [.ref (a 1), .ref (a 3), .ref (a 5), .ref (a 7), .int z])), (a 3, .inr (3, [.ref (a 4)])), (a 4, .inl (Γ.2.1, 16, .inl (f 1))), (a 5, .inr (3, [.ref (a 6)])), (a 6, .inl (Γ.2.1, 16, .inl (f 2))), (a 7, .inr (3, [.ref (a 8)])), (a 8, .inl (Γ.2.1, 16, .inl (f 3))), (a 1, .inr (3, [.ref (a 2)])), (a 2, .inl (Γ.2.1, 16, .inl (gapk (f 0) i (n - 1))))] := hD
  refine lv_aload_n hx hb dX5_takeOut_12 rfl (lv_at hl 0 rfl) ?_
  refine va_get (D := Γ.1) (ci := 5) (v := .ref (a 3)) (C := RX5) (T := TX5) (N := 5) hx hb hts (by decide +kernel) hown hK hP 0 rfl rfl 1 (by decide) (hts (.fieldLink RX5 20 "RowVeils$Rows" "places" "LRowVeils$Numbers;") (by decide +kernel)) (fun _ h9 => h9) rfl dX5_takeOut_13 ?_
  refine lv_iload_n hx hb dX5_takeOut_16 rfl (lv_at hl 1 rfl) ?_
  refine lv_aload_n hx hb dX5_takeOut_17 rfl (lv_at hl 0 rfl) ?_
  refine va_get (D := Γ.1) (ci := 5) (v := .int z) (C := RX5) (T := TX5) (N := 5) hx hb hts (by decide +kernel) hown hK hP 0 rfl rfl 4 (by decide) (hts (.fieldLink RX5 29 "RowVeils$Rows" "size" "I") (by decide +kernel)) (fun _ h9 => h9) rfl dX5_takeOut_18 ?_
  refine asi (z := nI n) hz ?_
  refine cWv (As := [.int (nI i), .int (nI n)]) (rest := []) (wr := [(a 0, .inr (5, [.ref (a 1), .ref (a 3), .ref (a 5), .ref (a 7), .int z])), (a 5, .inr (3, [.ref (a 6)])), (a 6, .inl (Γ.2.1, 16, .inl (f 2))), (a 7, .inr (3, [.ref (a 8)])), (a 8, .inl (Γ.2.1, 16, .inl (f 3))), (a 1, .inr (3, [.ref (a 2)])), (a 2, .inl (Γ.2.1, 16, .inl (gapk (f 0) i (n - 1))))]) (m_X3_closeGap l Γ _ (a 3) (a 4) 16 i n (f 1) (by decide) (by omega) (by omega) (by omega)) S k_X3_closeGap gX5_takeOut_X3_closeGap rfl ⟨Nat.le_of_ble_eq_true rfl, Nat.le_of_ble_eq_true rfl⟩ hK hP hD hS hA [1, 2] [0, 3, 4, 5, 6, 7, 8] rfl rfl (by decide) (by decide) (by decide) 0 (ci := 3) rfl rfl rfl rfl hl.1 (Nat.le_of_ble_eq_true rfl) rfl dX5_takeOut_21 ⟨Nat.le_of_ble_eq_true rfl, Nat.le_of_ble_eq_true rfl⟩ (fun u H locs hr hP hD hS => ?_)
  have hP : gP Γ [(a 0, .inr (5, [.ref (a 1), .ref (a 3), .ref (a 5), .ref (a 7), .int z])), (a 5, .inr (3, [.ref (a 6)])), (a 6, .inl (Γ.2.1, 16, .inl (f 2))), (a 7, .inr (3, [.ref (a 8)])), (a 8, .inl (Γ.2.1, 16, .inl (f 3))), (a 1, .inr (3, [.ref (a 2)])), (a 2, .inl (Γ.2.1, 16, .inl (gapk (f 0) i (n - 1)))), (a 3, .inr (3, [.ref (a 4)])), (a 4, .inl (Γ.2.1, 16, .inl (gapk (f 1) i (n - 1))))] H := hP
  have hD : va_D A [(a 0, .inr (5, [.ref (a 1), .ref (a 3), .ref (a 5), .ref (a 7), .int z])), (a 5, .inr (3, [.ref (a 6)])), (a 6, .inl (Γ.2.1, 16, .inl (f 2))), (a 7, .inr (3, [.ref (a 8)])), (a 8, .inl (Γ.2.1, 16, .inl (f 3))), (a 1, .inr (3, [.ref (a 2)])), (a 2, .inl (Γ.2.1, 16, .inl (gapk (f 0) i (n - 1)))), (a 3, .inr (3, [.ref (a 4)])), (a 4, .inl (Γ.2.1, 16, .inl (gapk (f 1) i (n - 1))))] := hD
  refine lv_aload_n hx hb dX5_takeOut_24 rfl (lv_at hl 0 rfl) ?_
  refine va_get (D := Γ.1) (ci := 5) (v := .ref (a 5)) (C := RX5) (T := TX5) (N := 5) hx hb hts (by decide +kernel) hown hK hP 0 rfl rfl 2 (by decide) (hts (.fieldLink RX5 23 "RowVeils$Rows" "values" "LRowVeils$Numbers;") (by decide +kernel)) (fun _ h9 => h9) rfl dX5_takeOut_25 ?_
  refine lv_iload_n hx hb dX5_takeOut_28 rfl (lv_at hl 1 rfl) ?_
  refine lv_aload_n hx hb dX5_takeOut_29 rfl (lv_at hl 0 rfl) ?_
  refine va_get (D := Γ.1) (ci := 5) (v := .int z) (C := RX5) (T := TX5) (N := 5) hx hb hts (by decide +kernel) hown hK hP 0 rfl rfl 4 (by decide) (hts (.fieldLink RX5 29 "RowVeils$Rows" "size" "I") (by decide +kernel)) (fun _ h9 => h9) rfl dX5_takeOut_30 ?_
  refine asi (z := nI n) hz ?_
  refine cWv (As := [.int (nI i), .int (nI n)]) (rest := []) (wr := [(a 0, .inr (5, [.ref (a 1), .ref (a 3), .ref (a 5), .ref (a 7), .int z])), (a 7, .inr (3, [.ref (a 8)])), (a 8, .inl (Γ.2.1, 16, .inl (f 3))), (a 1, .inr (3, [.ref (a 2)])), (a 2, .inl (Γ.2.1, 16, .inl (gapk (f 0) i (n - 1)))), (a 3, .inr (3, [.ref (a 4)])), (a 4, .inl (Γ.2.1, 16, .inl (gapk (f 1) i (n - 1))))]) (m_X3_closeGap l Γ _ (a 5) (a 6) 16 i n (f 2) (by decide) (by omega) (by omega) (by omega)) S k_X3_closeGap gX5_takeOut_X3_closeGap rfl ⟨Nat.le_of_ble_eq_true rfl, Nat.le_of_ble_eq_true rfl⟩ hK hP hD hS hA [1, 2] [0, 3, 4, 5, 6, 7, 8] rfl rfl (by decide) (by decide) (by decide) 0 (ci := 3) rfl rfl rfl rfl hl.1 (Nat.le_of_ble_eq_true rfl) rfl dX5_takeOut_33 ⟨Nat.le_of_ble_eq_true rfl, Nat.le_of_ble_eq_true rfl⟩ (fun u H locs hr hP hD hS => ?_)
  have hP : gP Γ [(a 0, .inr (5, [.ref (a 1), .ref (a 3), .ref (a 5), .ref (a 7), .int z])), (a 7, .inr (3, [.ref (a 8)])), (a 8, .inl (Γ.2.1, 16, .inl (f 3))), (a 1, .inr (3, [.ref (a 2)])), (a 2, .inl (Γ.2.1, 16, .inl (gapk (f 0) i (n - 1)))), (a 3, .inr (3, [.ref (a 4)])), (a 4, .inl (Γ.2.1, 16, .inl (gapk (f 1) i (n - 1)))), (a 5, .inr (3, [.ref (a 6)])), (a 6, .inl (Γ.2.1, 16, .inl (gapk (f 2) i (n - 1))))] H := hP
  have hD : va_D A [(a 0, .inr (5, [.ref (a 1), .ref (a 3), .ref (a 5), .ref (a 7), .int z])), (a 7, .inr (3, [.ref (a 8)])), (a 8, .inl (Γ.2.1, 16, .inl (f 3))), (a 1, .inr (3, [.ref (a 2)])), (a 2, .inl (Γ.2.1, 16, .inl (gapk (f 0) i (n - 1)))), (a 3, .inr (3, [.ref (a 4)])), (a 4, .inl (Γ.2.1, 16, .inl (gapk (f 1) i (n - 1)))), (a 5, .inr (3, [.ref (a 6)])), (a 6, .inl (Γ.2.1, 16, .inl (gapk (f 2) i (n - 1))))] := hD
  refine lv_aload_n hx hb dX5_takeOut_36 rfl (lv_at hl 0 rfl) ?_
  refine va_get (D := Γ.1) (ci := 5) (v := .ref (a 7)) (C := RX5) (T := TX5) (N := 5) hx hb hts (by decide +kernel) hown hK hP 0 rfl rfl 3 (by decide) (hts (.fieldLink RX5 26 "RowVeils$Rows" "secrecies" "LRowVeils$Numbers;") (by decide +kernel)) (fun _ h9 => h9) rfl dX5_takeOut_37 ?_
  refine lv_iload_n hx hb dX5_takeOut_40 rfl (lv_at hl 1 rfl) ?_
  refine lv_aload_n hx hb dX5_takeOut_41 rfl (lv_at hl 0 rfl) ?_
  refine va_get (D := Γ.1) (ci := 5) (v := .int z) (C := RX5) (T := TX5) (N := 5) hx hb hts (by decide +kernel) hown hK hP 0 rfl rfl 4 (by decide) (hts (.fieldLink RX5 29 "RowVeils$Rows" "size" "I") (by decide +kernel)) (fun _ h9 => h9) rfl dX5_takeOut_42 ?_
  refine asi (z := nI n) hz ?_
  refine cWv (As := [.int (nI i), .int (nI n)]) (rest := []) (wr := [(a 0, .inr (5, [.ref (a 1), .ref (a 3), .ref (a 5), .ref (a 7), .int z])), (a 1, .inr (3, [.ref (a 2)])), (a 2, .inl (Γ.2.1, 16, .inl (gapk (f 0) i (n - 1)))), (a 3, .inr (3, [.ref (a 4)])), (a 4, .inl (Γ.2.1, 16, .inl (gapk (f 1) i (n - 1)))), (a 5, .inr (3, [.ref (a 6)])), (a 6, .inl (Γ.2.1, 16, .inl (gapk (f 2) i (n - 1))))]) (m_X3_closeGap l Γ _ (a 7) (a 8) 16 i n (f 3) (by decide) (by omega) (by omega) (by omega)) S k_X3_closeGap gX5_takeOut_X3_closeGap rfl ⟨Nat.le_of_ble_eq_true rfl, Nat.le_of_ble_eq_true rfl⟩ hK hP hD hS hA [1, 2] [0, 3, 4, 5, 6, 7, 8] rfl rfl (by decide) (by decide) (by decide) 0 (ci := 3) rfl rfl rfl rfl hl.1 (Nat.le_of_ble_eq_true rfl) rfl dX5_takeOut_45 ⟨Nat.le_of_ble_eq_true rfl, Nat.le_of_ble_eq_true rfl⟩ (fun u H locs hr hP hD hS => ?_)
  have hP : gP Γ [(a 0, .inr (5, [.ref (a 1), .ref (a 3), .ref (a 5), .ref (a 7), .int z])), (a 1, .inr (3, [.ref (a 2)])), (a 2, .inl (Γ.2.1, 16, .inl (gapk (f 0) i (n - 1)))), (a 3, .inr (3, [.ref (a 4)])), (a 4, .inl (Γ.2.1, 16, .inl (gapk (f 1) i (n - 1)))), (a 5, .inr (3, [.ref (a 6)])), (a 6, .inl (Γ.2.1, 16, .inl (gapk (f 2) i (n - 1)))), (a 7, .inr (3, [.ref (a 8)])), (a 8, .inl (Γ.2.1, 16, .inl (gapk (f 3) i (n - 1))))] H := hP
  have hD : va_D A [(a 0, .inr (5, [.ref (a 1), .ref (a 3), .ref (a 5), .ref (a 7), .int z])), (a 1, .inr (3, [.ref (a 2)])), (a 2, .inl (Γ.2.1, 16, .inl (gapk (f 0) i (n - 1)))), (a 3, .inr (3, [.ref (a 4)])), (a 4, .inl (Γ.2.1, 16, .inl (gapk (f 1) i (n - 1)))), (a 5, .inr (3, [.ref (a 6)])), (a 6, .inl (Γ.2.1, 16, .inl (gapk (f 2) i (n - 1)))), (a 7, .inr (3, [.ref (a 8)])), (a 8, .inl (Γ.2.1, 16, .inl (gapk (f 3) i (n - 1))))] := hD
  refine lv_aload_n hx hb dX5_takeOut_48 rfl (lv_at hl 0 rfl) ?_
  refine lv_dup hx hb dX5_takeOut_49 rfl ?_
  refine va_get (D := Γ.1) (ci := 5) (v := .int z) (C := RX5) (T := TX5) (N := 5) hx hb hts (by decide +kernel) hown hK hP 0 rfl rfl 4 (by decide) (hts (.fieldLink RX5 29 "RowVeils$Rows" "size" "I") (by decide +kernel)) (fun _ h9 => h9) rfl dX5_takeOut_50 ?_
  refine asi (z := nI n) hz ?_
  refine lv_iconst (v := nI 1) hx hb dX5_takeOut_53 (by decide) ?_
  refine lv_isub hx hb dX5_takeOut_54 ?_
  refine asi (z := nI (n - 1)) (pk_sub (by omega)) ?_
  refine va_put (D := Γ.1) (ci := 5) (v := .int (nI (n - 1))) (ty := .int) (C := RX5) (T := TX5) (N := 5) hx hb hts (by decide +kernel) tyX5 tyX5_ok nmX5 hown hK hP hD hS 0 rfl rfl 4 (by decide) (hts (.fieldLink RX5 29 "RowVeils$Rows" "size" "I") (by decide +kernel)) (fun _ h9 => h9) rfl (by decide +kernel) rfl rfl (Nat.le_of_ble_eq_true rfl) dX5_takeOut_55 (fun H locs hP hD hS => ?_)
  have hP : gP Γ [(a 0, .inr (5, [.ref (a 1), .ref (a 3), .ref (a 5), .ref (a 7), .int (nI (n - 1))])), (a 1, .inr (3, [.ref (a 2)])), (a 2, .inl (Γ.2.1, 16, .inl (gapk (f 0) i (n - 1)))), (a 3, .inr (3, [.ref (a 4)])), (a 4, .inl (Γ.2.1, 16, .inl (gapk (f 1) i (n - 1)))), (a 5, .inr (3, [.ref (a 6)])), (a 6, .inl (Γ.2.1, 16, .inl (gapk (f 2) i (n - 1)))), (a 7, .inr (3, [.ref (a 8)])), (a 8, .inl (Γ.2.1, 16, .inl (gapk (f 3) i (n - 1))))] H := hP
  have hD : va_D A [(a 0, .inr (5, [.ref (a 1), .ref (a 3), .ref (a 5), .ref (a 7), .int (nI (n - 1))])), (a 1, .inr (3, [.ref (a 2)])), (a 2, .inl (Γ.2.1, 16, .inl (gapk (f 0) i (n - 1)))), (a 3, .inr (3, [.ref (a 4)])), (a 4, .inl (Γ.2.1, 16, .inl (gapk (f 1) i (n - 1)))), (a 5, .inr (3, [.ref (a 6)])), (a 6, .inl (Γ.2.1, 16, .inl (gapk (f 2) i (n - 1)))), (a 7, .inr (3, [.ref (a 8)])), (a 8, .inl (Γ.2.1, 16, .inl (gapk (f 3) i (n - 1))))] := hD
  exact W.vret hx hb hrt (fun t9 ht9 hW9 => ⟨⟨(), rfl, trivial, wd_end hK hP hD [0, 1, 2, 3, 4, 5, 6, 7, 8] (by decide) rfl t9 ht9 hW9⟩, hS.F ht9⟩) hS.2.2 dX5_takeOut_58 hlk

abbrev rm_X5_isMatching : Room := { frames := 1, cells := 0, slots := 0, locals := 21 }
theorem k_X5_isMatching : Cal yX5_isMatching wsX5_isMatching rm_X5_isMatching cX5_isMatching 6 (some .boolean) 4 0 0 := ⟨⟨_, rfl⟩, rfl, rfl, by decide +kernel⟩
set_option maxHeartbeats 4000000 in
set_option maxRecDepth 100000 in
theorem m_X5_isMatching (l : Launch) (Γ : Gm) (a : Nat → Nat) (f : Nat → Nat → Int32) (z : Int32) (i q v : Nat) (hi : i < 16) (pl : Int32) (lo hi2 : Nat) (hq : f 1 i = nI q) (hv : f 2 i = nI v) (hvv : v < 2 ^ 31) (hlo : lo < 2 ^ 31) (hhi : hi2 < 2 ^ 31) : MRi l yX5_isMatching wsX5_isMatching rm_X5_isMatching Γ [(a 0, .inr (5, [.ref (a 1), .ref (a 3), .ref (a 5), .ref (a 7), .int z])), (a 1, .inr (3, [.ref (a 2)])), (a 2, .inl (Γ.2.1, 16, .inl (f 0))), (a 3, .inr (3, [.ref (a 4)])), (a 4, .inl (Γ.2.1, 16, .inl (f 1))), (a 5, .inr (3, [.ref (a 6)])), (a 6, .inl (Γ.2.1, 16, .inl (f 2))), (a 7, .inr (3, [.ref (a 8)])), (a 8, .inl (Γ.2.1, 16, .inl (f 3)))] [.ref (a 0), .int (nI i), .int pl, .int (nI lo), .int (nI hi2)] (fun r => r = bI (mtch pl q v lo hi2)) := by
  refine mR (cc := cX5_isMatching) (maxL := 6) (ret := (some .boolean)) (own := RX5) (by decide) rfl rfl (Nat.le_of_ble_eq_true rfl) ?_
  intro p e s m args below meth c S hrt hlk hK hP ls hl
  obtain ⟨hx, hb, hml, hown, hts⟩ := id S
  have hl : lv_has ls 6 [(0, .ref (a 0)), (1, .int (nI i)), (2, .int pl), (3, .int (nI lo)), (4, .int (nI hi2))] := hl
  have hP : gP Γ [(a 0, .inr (5, [.ref (a 1), .ref (a 3), .ref (a 5), .ref (a 7), .int z])), (a 1, .inr (3, [.ref (a 2)])), (a 2, .inl (Γ.2.1, 16, .inl (f 0))), (a 3, .inr (3, [.ref (a 4)])), (a 4, .inl (Γ.2.1, 16, .inl (f 1))), (a 5, .inr (3, [.ref (a 6)])), (a 6, .inl (Γ.2.1, 16, .inl (f 2))), (a 7, .inr (3, [.ref (a 8)])), (a 8, .inl (Γ.2.1, 16, .inl (f 3)))] s.heap := hP
  refine lv_aload_n hx hb dX5_isMatching_0 rfl (lv_at hl 0 rfl) ?_
  refine va_get (D := Γ.1) (ci := 5) (v := .ref (a 5)) (C := RX5) (T := TX5) (N := 5) hx hb hts (by decide +kernel) hown hK hP 0 rfl rfl 2 (by decide) (hts (.fieldLink RX5 23 "RowVeils$Rows" "values" "LRowVeils$Numbers;") (by decide +kernel)) (fun _ h9 => h9) rfl dX5_isMatching_1 ?_
  refine lv_iload_n hx hb dX5_isMatching_4 rfl (lv_at hl 1 rfl) ?_
  refine cRi (As := [.int (nI i)]) (rest := []) (m_X3_get l Γ (a 5) (a 6) 16 i (f 2) (by decide) (by omega)) S k_X3_get gX5_isMatching_X3_get rfl ⟨Nat.le_of_ble_eq_true rfl, Nat.le_of_ble_eq_true rfl⟩ hK hP [5, 6] rfl 0 (ci := 3) rfl rfl rfl rfl hl.1 (Nat.le_of_ble_eq_true rfl) rfl dX5_isMatching_5 ⟨Nat.le_of_ble_eq_true rfl, Nat.le_of_ble_eq_true rfl⟩ (fun r hr => ?_)
  subst hr
  refine asi (z := nI v) (hv) ?_
  refine lv_istore (lv' := [(5, .int (nI v)), (0, .ref (a 0)), (1, .int (nI i)), (2, .int pl), (3, .int (nI lo)), (4, .int (nI hi2))]) hx hb dX5_isMatching_8 hl (by decide) rfl (fun ls hl => ?_)
  refine lv_iload_n hx hb dX5_isMatching_10 rfl (lv_at hl 3 rfl) ?_
  refine lv_iconst (v := (-1)) hx hb dX5_isMatching_11 (by decide) ?_
  refine lv_icmp_eq (tgt := 27) hx hb dX5_isMatching_12 (by decide) (fun c_12 => ?_) (fun c_12 => ?_)
  · refine lv_iload hx hb dX5_isMatching_27 (lv_at hl 0 rfl) ?_
    refine lv_iload_n hx hb dX5_isMatching_29 rfl (lv_at hl 4 rfl) ?_
    refine lv_icmp_lt (tgt := 44) hx hb dX5_isMatching_30 (by decide) (fun c_30 => ?_) (fun c_30 => ?_)
    · have n_30 := (nI_ltI (a := v) (b := lo) (by omega) (by omega)).mp c_30
      refine lv_iconst (v := nI 0) hx hb dX5_isMatching_44 (by decide) ?_
      exact W.zret (v := nI 0) hx hb hrt (z0) (fun t9 ht9 hW9 => ⟨_, rfl, bf (Bool.eq_false_iff.mpr (fun h => by obtain ⟨h1, h2, h3⟩ := mtch_iff.mp h; first | omega | (rcases h1 with h1 | h1 <;> contradiction))), ht9⟩) (fun _ h9 => nomatch h9) dX5_isMatching_45 hlk
    · have n_30 := (not_congr (nI_ltI (a := v) (b := lo) (by omega) (by omega))).mp c_30
      refine lv_iload hx hb dX5_isMatching_33 (lv_at hl 0 rfl) ?_
      refine lv_iload hx hb dX5_isMatching_35 (lv_at hl 5 rfl) ?_
      refine lv_icmp_gt (tgt := 44) hx hb dX5_isMatching_37 (by decide) (fun c_37 => ?_) (fun c_37 => ?_)
      · have n_37 := (nI_ltI (a := hi2) (b := v) (by omega) (by omega)).mp c_37
        refine lv_iconst (v := nI 0) hx hb dX5_isMatching_44 (by decide) ?_
        exact W.zret (v := nI 0) hx hb hrt (z0) (fun t9 ht9 hW9 => ⟨_, rfl, bf (Bool.eq_false_iff.mpr (fun h => by obtain ⟨h1, h2, h3⟩ := mtch_iff.mp h; first | omega | (rcases h1 with h1 | h1 <;> contradiction))), ht9⟩) (fun _ h9 => nomatch h9) dX5_isMatching_45 hlk
      · have n_37 := (not_congr (nI_ltI (a := hi2) (b := v) (by omega) (by omega))).mp c_37
        refine lv_iconst (v := nI 1) hx hb dX5_isMatching_40 (by decide) ?_
        refine lv_goto (tgt := 45) hx hb dX5_isMatching_41 (by decide) ?_
        exact W.zret (v := nI 1) hx hb hrt (z1) (fun t9 ht9 hW9 => ⟨_, rfl, bt (mtch_iff.mpr ⟨(by first | exact Or.inl c_12 | exact Or.inr c_24), by omega, by omega⟩), ht9⟩) (fun _ h9 => nomatch h9) dX5_isMatching_45 hlk
  · refine lv_aload_n hx hb dX5_isMatching_15 rfl (lv_at hl 1 rfl) ?_
    refine va_get (D := Γ.1) (ci := 5) (v := .ref (a 3)) (C := RX5) (T := TX5) (N := 5) hx hb hts (by decide +kernel) hown hK hP 0 rfl rfl 1 (by decide) (hts (.fieldLink RX5 20 "RowVeils$Rows" "places" "LRowVeils$Numbers;") (by decide +kernel)) (fun _ h9 => h9) rfl dX5_isMatching_16 ?_
    refine lv_iload_n hx hb dX5_isMatching_19 rfl (lv_at hl 2 rfl) ?_
    refine cRi (As := [.int (nI i)]) (rest := []) (m_X3_get l Γ (a 3) (a 4) 16 i (f 1) (by decide) (by omega)) S k_X3_get gX5_isMatching_X3_get rfl ⟨Nat.le_of_ble_eq_true rfl, Nat.le_of_ble_eq_true rfl⟩ hK hP [3, 4] rfl 0 (ci := 3) rfl rfl rfl rfl hl.1 (Nat.le_of_ble_eq_true rfl) rfl dX5_isMatching_20 ⟨Nat.le_of_ble_eq_true rfl, Nat.le_of_ble_eq_true rfl⟩ (fun r hr => ?_)
    subst hr
    refine asi (z := nI q) (hq) ?_
    refine lv_iload_n hx hb dX5_isMatching_23 rfl (lv_at hl 3 rfl) ?_
    refine lv_icmp_ne (tgt := 44) hx hb dX5_isMatching_24 (by decide) (fun c_24 => ?_) (fun c_24 => ?_)
    · refine lv_iconst (v := nI 0) hx hb dX5_isMatching_44 (by decide) ?_
      exact W.zret (v := nI 0) hx hb hrt (z0) (fun t9 ht9 hW9 => ⟨_, rfl, bf (Bool.eq_false_iff.mpr (fun h => by obtain ⟨h1, h2, h3⟩ := mtch_iff.mp h; first | omega | (rcases h1 with h1 | h1 <;> contradiction))), ht9⟩) (fun _ h9 => nomatch h9) dX5_isMatching_45 hlk
    · refine lv_iload hx hb dX5_isMatching_27 (lv_at hl 0 rfl) ?_
      refine lv_iload_n hx hb dX5_isMatching_29 rfl (lv_at hl 4 rfl) ?_
      refine lv_icmp_lt (tgt := 44) hx hb dX5_isMatching_30 (by decide) (fun c_30 => ?_) (fun c_30 => ?_)
      · have n_30 := (nI_ltI (a := v) (b := lo) (by omega) (by omega)).mp c_30
        refine lv_iconst (v := nI 0) hx hb dX5_isMatching_44 (by decide) ?_
        exact W.zret (v := nI 0) hx hb hrt (z0) (fun t9 ht9 hW9 => ⟨_, rfl, bf (Bool.eq_false_iff.mpr (fun h => by obtain ⟨h1, h2, h3⟩ := mtch_iff.mp h; first | omega | (rcases h1 with h1 | h1 <;> contradiction))), ht9⟩) (fun _ h9 => nomatch h9) dX5_isMatching_45 hlk
      · have n_30 := (not_congr (nI_ltI (a := v) (b := lo) (by omega) (by omega))).mp c_30
        refine lv_iload hx hb dX5_isMatching_33 (lv_at hl 0 rfl) ?_
        refine lv_iload hx hb dX5_isMatching_35 (lv_at hl 5 rfl) ?_
        refine lv_icmp_gt (tgt := 44) hx hb dX5_isMatching_37 (by decide) (fun c_37 => ?_) (fun c_37 => ?_)
        · have n_37 := (nI_ltI (a := hi2) (b := v) (by omega) (by omega)).mp c_37
          refine lv_iconst (v := nI 0) hx hb dX5_isMatching_44 (by decide) ?_
          exact W.zret (v := nI 0) hx hb hrt (z0) (fun t9 ht9 hW9 => ⟨_, rfl, bf (Bool.eq_false_iff.mpr (fun h => by obtain ⟨h1, h2, h3⟩ := mtch_iff.mp h; first | omega | (rcases h1 with h1 | h1 <;> contradiction))), ht9⟩) (fun _ h9 => nomatch h9) dX5_isMatching_45 hlk
        · have n_37 := (not_congr (nI_ltI (a := hi2) (b := v) (by omega) (by omega))).mp c_37
          refine lv_iconst (v := nI 1) hx hb dX5_isMatching_40 (by decide) ?_
          refine lv_goto (tgt := 45) hx hb dX5_isMatching_41 (by decide) ?_
          exact W.zret (v := nI 1) hx hb hrt (z1) (fun t9 ht9 hW9 => ⟨_, rfl, bt (mtch_iff.mpr ⟨(by first | exact Or.inl c_12 | exact Or.inr c_24), by omega, by omega⟩), ht9⟩) (fun _ h9 => nomatch h9) dX5_isMatching_45 hlk

abbrev rm_X5_howManyMatch : Room := { frames := 2, cells := 0, slots := 0, locals := 46 }
theorem k_X5_howManyMatch : Cal yX5_howManyMatch wsX5_howManyMatch rm_X5_howManyMatch cX5_howManyMatch 6 (some .int) 3 0 0 := ⟨⟨_, rfl⟩, rfl, rfl, by decide +kernel⟩
set_option maxHeartbeats 4000000 in
set_option maxRecDepth 100000 in
theorem m_X5_howManyMatch (l : Launch) (Γ : Gm) (a : Nat → Nat) (f : Nat → Nat → Int32) (n : Nat) (hn : n ≤ 16) (q v : Nat → Nat) (pl : Int32) (lo hi2 : Nat) (hq : ∀ r, r < n → f 1 r = nI (q r)) (hv : ∀ r, r < n → f 2 r = nI (v r) ∧ v r < 100) (hlo : lo < 2 ^ 31) (hhi : hi2 < 2 ^ 31) (z : Int32) (hz : z = nI n)  : MRi l yX5_howManyMatch wsX5_howManyMatch rm_X5_howManyMatch Γ [(a 0, .inr (5, [.ref (a 1), .ref (a 3), .ref (a 5), .ref (a 7), .int z])), (a 1, .inr (3, [.ref (a 2)])), (a 2, .inl (Γ.2.1, 16, .inl (f 0))), (a 3, .inr (3, [.ref (a 4)])), (a 4, .inl (Γ.2.1, 16, .inl (f 1))), (a 5, .inr (3, [.ref (a 6)])), (a 6, .inl (Γ.2.1, 16, .inl (f 2))), (a 7, .inr (3, [.ref (a 8)])), (a 8, .inl (Γ.2.1, 16, .inl (f 3)))] [.ref (a 0), .int pl, .int (nI lo), .int (nI hi2)] (fun r => r = nI (cnt (fun r => mtch pl (q r) (v r) lo hi2) n)) := by
  refine mR (cc := cX5_howManyMatch) (maxL := 6) (ret := (some .int)) (own := RX5) (by decide) rfl rfl (Nat.le_of_ble_eq_true rfl) ?_
  intro p e s m args below meth c S hrt hlk hK hP ls hl
  obtain ⟨hx, hb, hml, hown, hts⟩ := id S
  have hc := fun k => cnt_le (fun r => mtch pl (q r) (v r) lo hi2) k
  have hl : lv_has ls 6 [(0, .ref (a 0)), (1, .int pl), (2, .int (nI lo)), (3, .int (nI hi2))] := hl
  have hP : gP Γ [(a 0, .inr (5, [.ref (a 1), .ref (a 3), .ref (a 5), .ref (a 7), .int z])), (a 1, .inr (3, [.ref (a 2)])), (a 2, .inl (Γ.2.1, 16, .inl (f 0))), (a 3, .inr (3, [.ref (a 4)])), (a 4, .inl (Γ.2.1, 16, .inl (f 1))), (a 5, .inr (3, [.ref (a 6)])), (a 6, .inl (Γ.2.1, 16, .inl (f 2))), (a 7, .inr (3, [.ref (a 8)])), (a 8, .inl (Γ.2.1, 16, .inl (f 3)))] s.heap := hP
  have L_6 : ∀ (fuel : Nat), ∀ (k : Nat) (x4 : Int32) (hk : k ≤ n) (hfk : n - k < fuel) (e_x4 : x4 = nI (cnt (fun r => mtch pl (q r) (v r) lo hi2) k)), ∀ ls : Array Slot, lv_has ls 6 [(0, .ref (a 0)), (1, .int pl), (2, .int (nI lo)), (3, .int (nI hi2)), (5, .int (nI k)), (4, .int x4)] → W p l e rm_X5_howManyMatch s m args below meth c s.heap [] 0 0 (MQ below (vp_Si (fun r => r = nI (cnt (fun r => mtch pl (q r) (v r) lo hi2) n))) args s 0 0 (fun _ => False)) (F0 m 6 ls []) := by
    intro fuel
    induction fuel with
    | zero => intro k x4 hk hfk e_x4; exact absurd hfk (by omega)
    | succ fuel ih_6 =>
      intro k x4 hk hfk e_x4 ls hl
      subst e_x4
      refine lv_iload hx hb dX5_howManyMatch_6 (lv_at hl 4 rfl) ?_
      refine lv_aload_n hx hb dX5_howManyMatch_8 rfl (lv_at hl 0 rfl) ?_
      refine va_get (D := Γ.1) (ci := 5) (v := .int z) (C := RX5) (T := TX5) (N := 5) hx hb hts (by decide +kernel) hown hK hP 0 rfl rfl 4 (by decide) (hts (.fieldLink RX5 29 "RowVeils$Rows" "size" "I") (by decide +kernel)) (fun _ h9 => h9) rfl dX5_howManyMatch_9 ?_
      refine asi (z := nI n) hz ?_
      refine lv_icmp_ge (tgt := 36) hx hb dX5_howManyMatch_12 (by decide) (fun c_12 => ?_) (fun c_12 => ?_)
      · have n_12 := (nI_leI (a := n) (b := k) (by omega) (by omega)).mp c_12
        refine lv_iload hx hb dX5_howManyMatch_36 (lv_at hl 5 rfl) ?_
        exact W.iret (v := nI (cnt (fun r => mtch pl (q r) (v r) lo hi2) k)) hx hb hrt (fun t9 ht9 hW9 => ⟨_, rfl, by rw [show n = k from by omega], ht9⟩) (fun _ h9 => nomatch h9) dX5_howManyMatch_38 hlk
      · have n_12 := (not_congr (nI_leI (a := n) (b := k) (by omega) (by omega))).mp c_12
        refine lv_aload_n hx hb dX5_howManyMatch_15 rfl (lv_at hl 0 rfl) ?_
        refine lv_iload hx hb dX5_howManyMatch_16 (lv_at hl 4 rfl) ?_
        refine lv_iload_n hx hb dX5_howManyMatch_18 rfl (lv_at hl 1 rfl) ?_
        refine lv_iload_n hx hb dX5_howManyMatch_19 rfl (lv_at hl 2 rfl) ?_
        refine lv_iload_n hx hb dX5_howManyMatch_20 rfl (lv_at hl 3 rfl) ?_
        refine cRi (As := [.int (nI k), .int pl, .int (nI lo), .int (nI hi2)]) (rest := []) (m_X5_isMatching l Γ a f z k (q k) (v k) (by omega) pl lo hi2 (hq k (by omega)) (hv k (by omega)).1 (by have := (hv k (by omega)).2; omega) hlo hhi) S k_X5_isMatching gX5_howManyMatch_X5_isMatching rfl ⟨Nat.le_of_ble_eq_true rfl, Nat.le_of_ble_eq_true rfl⟩ hK hP [0, 1, 2, 3, 4, 5, 6, 7, 8] rfl 0 (ci := 5) rfl rfl rfl rfl hl.1 (Nat.le_of_ble_eq_true rfl) rfl dX5_howManyMatch_21 ⟨Nat.le_of_ble_eq_true rfl, Nat.le_of_ble_eq_true rfl⟩ (fun r hr => ?_)
        subst hr
        refine lv_if_eq (tgt := 30) hx hb dX5_howManyMatch_24 (by decide) (fun c_24 => ?_) (fun c_24 => ?_)
        · have n_24 := bI_z.mp c_24
          refine lv_iinc (v := nI (k + 1)) (lv' := [(5, .int (nI (k + 1))), (0, .ref (a 0)), (1, .int pl), (2, .int (nI lo)), (3, .int (nI hi2)), (4, .int (nI (cnt (fun r => mtch pl (q r) (v r) lo hi2) k)))]) hx hb dX5_howManyMatch_30 hl (k := 4) rfl (nI_add _ _) (by decide) rfl (fun ls hl => ?_)
          refine lv_goto (tgt := 6) hx hb dX5_howManyMatch_33 (by decide) ?_
          exact ih_6 (k + 1) (nI (cnt (fun r => mtch pl (q r) (v r) lo hi2) k)) (by omega) (by omega) (by first | rw [cnt_t (p := (fun r => mtch pl (q r) (v r) lo hi2)) n_24] | rw [cnt_f (p := (fun r => mtch pl (q r) (v r) lo hi2)) n_24]) ls (lv_sub hl [1, 2, 3, 4, 0, 5] rfl)
        · have n_24 := bI_nz.mp c_24
          refine lv_iinc (v := nI ((cnt (fun r => mtch pl (q r) (v r) lo hi2) k) + 1)) (lv' := [(4, .int (nI ((cnt (fun r => mtch pl (q r) (v r) lo hi2) k) + 1))), (0, .ref (a 0)), (1, .int pl), (2, .int (nI lo)), (3, .int (nI hi2)), (5, .int (nI k))]) hx hb dX5_howManyMatch_27 hl (k := 5) rfl (nI_add _ _) (by decide) rfl (fun ls hl => ?_)
          refine lv_iinc (v := nI (k + 1)) (lv' := [(5, .int (nI (k + 1))), (4, .int (nI ((cnt (fun r => mtch pl (q r) (v r) lo hi2) k) + 1))), (0, .ref (a 0)), (1, .int pl), (2, .int (nI lo)), (3, .int (nI hi2))]) hx hb dX5_howManyMatch_30 hl (k := 5) rfl (nI_add _ _) (by decide) rfl (fun ls hl => ?_)
          refine lv_goto (tgt := 6) hx hb dX5_howManyMatch_33 (by decide) ?_
          exact ih_6 (k + 1) (nI ((cnt (fun r => mtch pl (q r) (v r) lo hi2) k) + 1)) (by omega) (by omega) (by first | rw [cnt_t (p := (fun r => mtch pl (q r) (v r) lo hi2)) n_24] | rw [cnt_f (p := (fun r => mtch pl (q r) (v r) lo hi2)) n_24]) ls (lv_sub hl [2, 3, 4, 5, 0, 1] rfl)
  refine lv_iconst (v := nI 0) hx hb dX5_howManyMatch_0 (by decide) ?_
  refine lv_istore (lv' := [(4, .int (nI 0)), (0, .ref (a 0)), (1, .int pl), (2, .int (nI lo)), (3, .int (nI hi2))]) hx hb dX5_howManyMatch_1 hl (by decide) rfl (fun ls hl => ?_)
  refine lv_iconst (v := nI 0) hx hb dX5_howManyMatch_3 (by decide) ?_
  refine lv_istore (lv' := [(5, .int (nI 0)), (4, .int (nI 0)), (0, .ref (a 0)), (1, .int pl), (2, .int (nI lo)), (3, .int (nI hi2))]) hx hb dX5_howManyMatch_4 hl (by decide) rfl (fun ls hl => ?_)
  exact L_6 (n + 1) 0 (nI 0) (by omega) (by omega) rfl ls (lv_sub hl [2, 3, 4, 5, 0, 1] rfl)

abbrev rm_X5_copyFrom : Room := { frames := 2, cells := 0, slots := 0, locals := 43 }
theorem k_X5_copyFrom : Cal yX5_copyFrom wsX5_copyFrom rm_X5_copyFrom cX5_copyFrom 2 none 1 0 0 := ⟨⟨_, rfl⟩, rfl, rfl, by decide +kernel⟩
set_option maxHeartbeats 4000000 in
set_option maxRecDepth 100000 in
theorem m_X5_copyFrom (l : Launch) (Γ : Gm) (sz : Nat) (a b : Nat → Nat) (f g : Nat → Nat → Int32) (z z2 : Int32) : MWv (S := Unit) l yX5_copyFrom wsX5_copyFrom rm_X5_copyFrom Γ sz [(a 0, .inr (5, [.ref (a 1), .ref (a 3), .ref (a 5), .ref (a 7), .int z])), (a 1, .inr (3, [.ref (a 2)])), (a 2, .inl (Γ.2.1, 16, .inl (f 0))), (a 3, .inr (3, [.ref (a 4)])), (a 4, .inl (Γ.2.1, 16, .inl (f 1))), (a 5, .inr (3, [.ref (a 6)])), (a 6, .inl (Γ.2.1, 16, .inl (f 2))), (a 7, .inr (3, [.ref (a 8)])), (a 8, .inl (Γ.2.1, 16, .inl (f 3))), (b 0, .inr (5, [.ref (b 1), .ref (b 3), .ref (b 5), .ref (b 7), .int z2])), (b 1, .inr (3, [.ref (b 2)])), (b 2, .inl (Γ.2.1, 16, .inl (g 0))), (b 3, .inr (3, [.ref (b 4)])), (b 4, .inl (Γ.2.1, 16, .inl (g 1))), (b 5, .inr (3, [.ref (b 6)])), (b 6, .inl (Γ.2.1, 16, .inl (g 2))), (b 7, .inr (3, [.ref (b 8)])), (b 8, .inl (Γ.2.1, 16, .inl (g 3)))] [.ref (a 0), .ref (b 0)] (fun u => True) (fun u => [(a 0, .inr (5, [.ref (a 1), .ref (a 3), .ref (a 5), .ref (a 7), .int z2])), (a 1, .inr (3, [.ref (a 2)])), (a 2, .inl (Γ.2.1, 16, .inl (cpk (f 0) (g 0) 16))), (a 3, .inr (3, [.ref (a 4)])), (a 4, .inl (Γ.2.1, 16, .inl (cpk (f 1) (g 1) 16))), (a 5, .inr (3, [.ref (a 6)])), (a 6, .inl (Γ.2.1, 16, .inl (cpk (f 2) (g 2) 16))), (a 7, .inr (3, [.ref (a 8)])), (a 8, .inl (Γ.2.1, 16, .inl (cpk (f 3) (g 3) 16))), (b 0, .inr (5, [.ref (b 1), .ref (b 3), .ref (b 5), .ref (b 7), .int z2])), (b 1, .inr (3, [.ref (b 2)])), (b 2, .inl (Γ.2.1, 16, .inl (g 0))), (b 3, .inr (3, [.ref (b 4)])), (b 4, .inl (Γ.2.1, 16, .inl (g 1))), (b 5, .inr (3, [.ref (b 6)])), (b 6, .inl (Γ.2.1, 16, .inl (g 2))), (b 7, .inr (3, [.ref (b 8)])), (b 8, .inl (Γ.2.1, 16, .inl (g 3)))]) 0 0 := by
  refine mW (cc := cX5_copyFrom) (maxL := 2) (ret := none) (own := RX5) (by decide) rfl rfl (Nat.le_of_ble_eq_true rfl) ?_
  intro p e s m args below meth c S hrt hlk hin hsz hK hP hD hA hS ls hl
  subst hsz
  generalize hAe : va_A ([(a 0, .inr (5, [.ref (a 1), .ref (a 3), .ref (a 5), .ref (a 7), .int z])), (a 1, .inr (3, [.ref (a 2)])), (a 2, .inl (Γ.2.1, 16, .inl (f 0))), (a 3, .inr (3, [.ref (a 4)])), (a 4, .inl (Γ.2.1, 16, .inl (f 1))), (a 5, .inr (3, [.ref (a 6)])), (a 6, .inl (Γ.2.1, 16, .inl (f 2))), (a 7, .inr (3, [.ref (a 8)])), (a 8, .inl (Γ.2.1, 16, .inl (f 3))), (b 0, .inr (5, [.ref (b 1), .ref (b 3), .ref (b 5), .ref (b 7), .int z2])), (b 1, .inr (3, [.ref (b 2)])), (b 2, .inl (Γ.2.1, 16, .inl (g 0))), (b 3, .inr (3, [.ref (b 4)])), (b 4, .inl (Γ.2.1, 16, .inl (g 1))), (b 5, .inr (3, [.ref (b 6)])), (b 6, .inl (Γ.2.1, 16, .inl (g 2))), (b 7, .inr (3, [.ref (b 8)])), (b 8, .inl (Γ.2.1, 16, .inl (g 3)))]) s.heap.size = A at hD hA hS ⊢
  obtain ⟨hx, hb, hml, hown, hts⟩ := id S
  have hl : lv_has ls 2 [(0, .ref (a 0)), (1, .ref (b 0))] := hl
  have hH : s.heap = s.heap := rfl
  refine lv_aload_n hx hb dX5_copyFrom_0 rfl (lv_at hl 0 rfl) ?_
  refine va_get (D := Γ.1) (ci := 5) (v := .ref (a 1)) (C := RX5) (T := TX5) (N := 5) hx hb hts (by decide +kernel) hown hK hP 0 rfl rfl 0 (by decide) (hts (.fieldLink RX5 14 "RowVeils$Rows" "owners" "LRowVeils$Numbers;") (by decide +kernel)) (fun _ h9 => h9) rfl dX5_copyFrom_1 ?_
  refine lv_aload_n hx hb dX5_copyFrom_4 rfl (lv_at hl 1 rfl) ?_
  refine va_get (D := Γ.1) (ci := 5) (v := .ref (b 1)) (C := RX5) (T := TX5) (N := 5) hx hb hts (by decide +kernel) hown hK hP 9 rfl rfl 0 (by decide) (hts (.fieldLink RX5 14 "RowVeils$Rows" "owners" "LRowVeils$Numbers;") (by decide +kernel)) (fun _ h9 => h9) rfl dX5_copyFrom_5 ?_
  refine cWv (As := [.ref (b 1)]) (rest := []) (wr := [(a 0, .inr (5, [.ref (a 1), .ref (a 3), .ref (a 5), .ref (a 7), .int z])), (a 3, .inr (3, [.ref (a 4)])), (a 4, .inl (Γ.2.1, 16, .inl (f 1))), (a 5, .inr (3, [.ref (a 6)])), (a 6, .inl (Γ.2.1, 16, .inl (f 2))), (a 7, .inr (3, [.ref (a 8)])), (a 8, .inl (Γ.2.1, 16, .inl (f 3))), (b 0, .inr (5, [.ref (b 1), .ref (b 3), .ref (b 5), .ref (b 7), .int z2])), (b 3, .inr (3, [.ref (b 4)])), (b 4, .inl (Γ.2.1, 16, .inl (g 1))), (b 5, .inr (3, [.ref (b 6)])), (b 6, .inl (Γ.2.1, 16, .inl (g 2))), (b 7, .inr (3, [.ref (b 8)])), (b 8, .inl (Γ.2.1, 16, .inl (g 3)))]) (m_X3_copyFrom l Γ _ (a 1) (a 2) (b 1) (b 2) 16 (f 0) (g 0) (by decide)) S k_X3_copyFrom gX5_copyFrom_X3_copyFrom rfl ⟨Nat.le_of_ble_eq_true rfl, Nat.le_of_ble_eq_true rfl⟩ hK hP hD hS hA [1, 2, 10, 11] [0, 3, 4, 5, 6, 7, 8, 9, 12, 13, 14, 15, 16, 17] rfl rfl (by decide) (by decide) (by decide) 0 (ci := 3) rfl rfl rfl rfl hl.1 (Nat.le_of_ble_eq_true rfl) rfl dX5_copyFrom_8 ⟨Nat.le_of_ble_eq_true rfl, Nat.le_of_ble_eq_true rfl⟩ (fun u H locs hr hP hD hS => ?_)
  have hP : gP Γ [(a 0, .inr (5, [.ref (a 1), .ref (a 3), .ref (a 5), .ref (a 7), .int z])), (a 3, .inr (3, [.ref (a 4)])), (a 4, .inl (Γ.2.1, 16, .inl (f 1))), (a 5, .inr (3, [.ref (a 6)])), (a 6, .inl (Γ.2.1, 16, .inl (f 2))), (a 7, .inr (3, [.ref (a 8)])), (a 8, .inl (Γ.2.1, 16, .inl (f 3))), (b 0, .inr (5, [.ref (b 1), .ref (b 3), .ref (b 5), .ref (b 7), .int z2])), (b 3, .inr (3, [.ref (b 4)])), (b 4, .inl (Γ.2.1, 16, .inl (g 1))), (b 5, .inr (3, [.ref (b 6)])), (b 6, .inl (Γ.2.1, 16, .inl (g 2))), (b 7, .inr (3, [.ref (b 8)])), (b 8, .inl (Γ.2.1, 16, .inl (g 3))), (a 1, .inr (3, [.ref (a 2)])), (a 2, .inl (Γ.2.1, 16, .inl (cpk (f 0) (g 0) 16))), (b 1, .inr (3, [.ref (b 2)])), (b 2, .inl (Γ.2.1, 16, .inl (g 0)))] H := hP
  have hD : va_D A [(a 0, .inr (5, [.ref (a 1), .ref (a 3), .ref (a 5), .ref (a 7), .int z])), (a 3, .inr (3, [.ref (a 4)])), (a 4, .inl (Γ.2.1, 16, .inl (f 1))), (a 5, .inr (3, [.ref (a 6)])), (a 6, .inl (Γ.2.1, 16, .inl (f 2))), (a 7, .inr (3, [.ref (a 8)])), (a 8, .inl (Γ.2.1, 16, .inl (f 3))), (b 0, .inr (5, [.ref (b 1), .ref (b 3), .ref (b 5), .ref (b 7), .int z2])), (b 3, .inr (3, [.ref (b 4)])), (b 4, .inl (Γ.2.1, 16, .inl (g 1))), (b 5, .inr (3, [.ref (b 6)])), (b 6, .inl (Γ.2.1, 16, .inl (g 2))), (b 7, .inr (3, [.ref (b 8)])), (b 8, .inl (Γ.2.1, 16, .inl (g 3))), (a 1, .inr (3, [.ref (a 2)])), (a 2, .inl (Γ.2.1, 16, .inl (cpk (f 0) (g 0) 16))), (b 1, .inr (3, [.ref (b 2)])), (b 2, .inl (Γ.2.1, 16, .inl (g 0)))] := hD
  refine lv_aload_n hx hb dX5_copyFrom_11 rfl (lv_at hl 0 rfl) ?_
  refine va_get (D := Γ.1) (ci := 5) (v := .ref (a 3)) (C := RX5) (T := TX5) (N := 5) hx hb hts (by decide +kernel) hown hK hP 0 rfl rfl 1 (by decide) (hts (.fieldLink RX5 20 "RowVeils$Rows" "places" "LRowVeils$Numbers;") (by decide +kernel)) (fun _ h9 => h9) rfl dX5_copyFrom_12 ?_
  refine lv_aload_n hx hb dX5_copyFrom_15 rfl (lv_at hl 1 rfl) ?_
  refine va_get (D := Γ.1) (ci := 5) (v := .ref (b 3)) (C := RX5) (T := TX5) (N := 5) hx hb hts (by decide +kernel) hown hK hP 7 rfl rfl 1 (by decide) (hts (.fieldLink RX5 20 "RowVeils$Rows" "places" "LRowVeils$Numbers;") (by decide +kernel)) (fun _ h9 => h9) rfl dX5_copyFrom_16 ?_
  refine cWv (As := [.ref (b 3)]) (rest := []) (wr := [(a 0, .inr (5, [.ref (a 1), .ref (a 3), .ref (a 5), .ref (a 7), .int z])), (a 5, .inr (3, [.ref (a 6)])), (a 6, .inl (Γ.2.1, 16, .inl (f 2))), (a 7, .inr (3, [.ref (a 8)])), (a 8, .inl (Γ.2.1, 16, .inl (f 3))), (b 0, .inr (5, [.ref (b 1), .ref (b 3), .ref (b 5), .ref (b 7), .int z2])), (b 5, .inr (3, [.ref (b 6)])), (b 6, .inl (Γ.2.1, 16, .inl (g 2))), (b 7, .inr (3, [.ref (b 8)])), (b 8, .inl (Γ.2.1, 16, .inl (g 3))), (a 1, .inr (3, [.ref (a 2)])), (a 2, .inl (Γ.2.1, 16, .inl (cpk (f 0) (g 0) 16))), (b 1, .inr (3, [.ref (b 2)])), (b 2, .inl (Γ.2.1, 16, .inl (g 0)))]) (m_X3_copyFrom l Γ _ (a 3) (a 4) (b 3) (b 4) 16 (f 1) (g 1) (by decide)) S k_X3_copyFrom gX5_copyFrom_X3_copyFrom rfl ⟨Nat.le_of_ble_eq_true rfl, Nat.le_of_ble_eq_true rfl⟩ hK hP hD hS hA [1, 2, 8, 9] [0, 3, 4, 5, 6, 7, 10, 11, 12, 13, 14, 15, 16, 17] rfl rfl (by decide) (by decide) (by decide) 0 (ci := 3) rfl rfl rfl rfl hl.1 (Nat.le_of_ble_eq_true rfl) rfl dX5_copyFrom_19 ⟨Nat.le_of_ble_eq_true rfl, Nat.le_of_ble_eq_true rfl⟩ (fun u H locs hr hP hD hS => ?_)
  have hP : gP Γ [(a 0, .inr (5, [.ref (a 1), .ref (a 3), .ref (a 5), .ref (a 7), .int z])), (a 5, .inr (3, [.ref (a 6)])), (a 6, .inl (Γ.2.1, 16, .inl (f 2))), (a 7, .inr (3, [.ref (a 8)])), (a 8, .inl (Γ.2.1, 16, .inl (f 3))), (b 0, .inr (5, [.ref (b 1), .ref (b 3), .ref (b 5), .ref (b 7), .int z2])), (b 5, .inr (3, [.ref (b 6)])), (b 6, .inl (Γ.2.1, 16, .inl (g 2))), (b 7, .inr (3, [.ref (b 8)])), (b 8, .inl (Γ.2.1, 16, .inl (g 3))), (a 1, .inr (3, [.ref (a 2)])), (a 2, .inl (Γ.2.1, 16, .inl (cpk (f 0) (g 0) 16))), (b 1, .inr (3, [.ref (b 2)])), (b 2, .inl (Γ.2.1, 16, .inl (g 0))), (a 3, .inr (3, [.ref (a 4)])), (a 4, .inl (Γ.2.1, 16, .inl (cpk (f 1) (g 1) 16))), (b 3, .inr (3, [.ref (b 4)])), (b 4, .inl (Γ.2.1, 16, .inl (g 1)))] H := hP
  have hD : va_D A [(a 0, .inr (5, [.ref (a 1), .ref (a 3), .ref (a 5), .ref (a 7), .int z])), (a 5, .inr (3, [.ref (a 6)])), (a 6, .inl (Γ.2.1, 16, .inl (f 2))), (a 7, .inr (3, [.ref (a 8)])), (a 8, .inl (Γ.2.1, 16, .inl (f 3))), (b 0, .inr (5, [.ref (b 1), .ref (b 3), .ref (b 5), .ref (b 7), .int z2])), (b 5, .inr (3, [.ref (b 6)])), (b 6, .inl (Γ.2.1, 16, .inl (g 2))), (b 7, .inr (3, [.ref (b 8)])), (b 8, .inl (Γ.2.1, 16, .inl (g 3))), (a 1, .inr (3, [.ref (a 2)])), (a 2, .inl (Γ.2.1, 16, .inl (cpk (f 0) (g 0) 16))), (b 1, .inr (3, [.ref (b 2)])), (b 2, .inl (Γ.2.1, 16, .inl (g 0))), (a 3, .inr (3, [.ref (a 4)])), (a 4, .inl (Γ.2.1, 16, .inl (cpk (f 1) (g 1) 16))), (b 3, .inr (3, [.ref (b 4)])), (b 4, .inl (Γ.2.1, 16, .inl (g 1)))] := hD
  refine lv_aload_n hx hb dX5_copyFrom_22 rfl (lv_at hl 0 rfl) ?_
  refine va_get (D := Γ.1) (ci := 5) (v := .ref (a 5)) (C := RX5) (T := TX5) (N := 5) hx hb hts (by decide +kernel) hown hK hP 0 rfl rfl 2 (by decide) (hts (.fieldLink RX5 23 "RowVeils$Rows" "values" "LRowVeils$Numbers;") (by decide +kernel)) (fun _ h9 => h9) rfl dX5_copyFrom_23 ?_
  refine lv_aload_n hx hb dX5_copyFrom_26 rfl (lv_at hl 1 rfl) ?_
  refine va_get (D := Γ.1) (ci := 5) (v := .ref (b 5)) (C := RX5) (T := TX5) (N := 5) hx hb hts (by decide +kernel) hown hK hP 5 rfl rfl 2 (by decide) (hts (.fieldLink RX5 23 "RowVeils$Rows" "values" "LRowVeils$Numbers;") (by decide +kernel)) (fun _ h9 => h9) rfl dX5_copyFrom_27 ?_
  refine cWv (As := [.ref (b 5)]) (rest := []) (wr := [(a 0, .inr (5, [.ref (a 1), .ref (a 3), .ref (a 5), .ref (a 7), .int z])), (a 7, .inr (3, [.ref (a 8)])), (a 8, .inl (Γ.2.1, 16, .inl (f 3))), (b 0, .inr (5, [.ref (b 1), .ref (b 3), .ref (b 5), .ref (b 7), .int z2])), (b 7, .inr (3, [.ref (b 8)])), (b 8, .inl (Γ.2.1, 16, .inl (g 3))), (a 1, .inr (3, [.ref (a 2)])), (a 2, .inl (Γ.2.1, 16, .inl (cpk (f 0) (g 0) 16))), (b 1, .inr (3, [.ref (b 2)])), (b 2, .inl (Γ.2.1, 16, .inl (g 0))), (a 3, .inr (3, [.ref (a 4)])), (a 4, .inl (Γ.2.1, 16, .inl (cpk (f 1) (g 1) 16))), (b 3, .inr (3, [.ref (b 4)])), (b 4, .inl (Γ.2.1, 16, .inl (g 1)))]) (m_X3_copyFrom l Γ _ (a 5) (a 6) (b 5) (b 6) 16 (f 2) (g 2) (by decide)) S k_X3_copyFrom gX5_copyFrom_X3_copyFrom rfl ⟨Nat.le_of_ble_eq_true rfl, Nat.le_of_ble_eq_true rfl⟩ hK hP hD hS hA [1, 2, 6, 7] [0, 3, 4, 5, 8, 9, 10, 11, 12, 13, 14, 15, 16, 17] rfl rfl (by decide) (by decide) (by decide) 0 (ci := 3) rfl rfl rfl rfl hl.1 (Nat.le_of_ble_eq_true rfl) rfl dX5_copyFrom_30 ⟨Nat.le_of_ble_eq_true rfl, Nat.le_of_ble_eq_true rfl⟩ (fun u H locs hr hP hD hS => ?_)
  have hP : gP Γ [(a 0, .inr (5, [.ref (a 1), .ref (a 3), .ref (a 5), .ref (a 7), .int z])), (a 7, .inr (3, [.ref (a 8)])), (a 8, .inl (Γ.2.1, 16, .inl (f 3))), (b 0, .inr (5, [.ref (b 1), .ref (b 3), .ref (b 5), .ref (b 7), .int z2])), (b 7, .inr (3, [.ref (b 8)])), (b 8, .inl (Γ.2.1, 16, .inl (g 3))), (a 1, .inr (3, [.ref (a 2)])), (a 2, .inl (Γ.2.1, 16, .inl (cpk (f 0) (g 0) 16))), (b 1, .inr (3, [.ref (b 2)])), (b 2, .inl (Γ.2.1, 16, .inl (g 0))), (a 3, .inr (3, [.ref (a 4)])), (a 4, .inl (Γ.2.1, 16, .inl (cpk (f 1) (g 1) 16))), (b 3, .inr (3, [.ref (b 4)])), (b 4, .inl (Γ.2.1, 16, .inl (g 1))), (a 5, .inr (3, [.ref (a 6)])), (a 6, .inl (Γ.2.1, 16, .inl (cpk (f 2) (g 2) 16))), (b 5, .inr (3, [.ref (b 6)])), (b 6, .inl (Γ.2.1, 16, .inl (g 2)))] H := hP
  have hD : va_D A [(a 0, .inr (5, [.ref (a 1), .ref (a 3), .ref (a 5), .ref (a 7), .int z])), (a 7, .inr (3, [.ref (a 8)])), (a 8, .inl (Γ.2.1, 16, .inl (f 3))), (b 0, .inr (5, [.ref (b 1), .ref (b 3), .ref (b 5), .ref (b 7), .int z2])), (b 7, .inr (3, [.ref (b 8)])), (b 8, .inl (Γ.2.1, 16, .inl (g 3))), (a 1, .inr (3, [.ref (a 2)])), (a 2, .inl (Γ.2.1, 16, .inl (cpk (f 0) (g 0) 16))), (b 1, .inr (3, [.ref (b 2)])), (b 2, .inl (Γ.2.1, 16, .inl (g 0))), (a 3, .inr (3, [.ref (a 4)])), (a 4, .inl (Γ.2.1, 16, .inl (cpk (f 1) (g 1) 16))), (b 3, .inr (3, [.ref (b 4)])), (b 4, .inl (Γ.2.1, 16, .inl (g 1))), (a 5, .inr (3, [.ref (a 6)])), (a 6, .inl (Γ.2.1, 16, .inl (cpk (f 2) (g 2) 16))), (b 5, .inr (3, [.ref (b 6)])), (b 6, .inl (Γ.2.1, 16, .inl (g 2)))] := hD
  refine lv_aload_n hx hb dX5_copyFrom_33 rfl (lv_at hl 0 rfl) ?_
  refine va_get (D := Γ.1) (ci := 5) (v := .ref (a 7)) (C := RX5) (T := TX5) (N := 5) hx hb hts (by decide +kernel) hown hK hP 0 rfl rfl 3 (by decide) (hts (.fieldLink RX5 26 "RowVeils$Rows" "secrecies" "LRowVeils$Numbers;") (by decide +kernel)) (fun _ h9 => h9) rfl dX5_copyFrom_34 ?_
  refine lv_aload_n hx hb dX5_copyFrom_37 rfl (lv_at hl 1 rfl) ?_
  refine va_get (D := Γ.1) (ci := 5) (v := .ref (b 7)) (C := RX5) (T := TX5) (N := 5) hx hb hts (by decide +kernel) hown hK hP 3 rfl rfl 3 (by decide) (hts (.fieldLink RX5 26 "RowVeils$Rows" "secrecies" "LRowVeils$Numbers;") (by decide +kernel)) (fun _ h9 => h9) rfl dX5_copyFrom_38 ?_
  refine cWv (As := [.ref (b 7)]) (rest := []) (wr := [(a 0, .inr (5, [.ref (a 1), .ref (a 3), .ref (a 5), .ref (a 7), .int z])), (b 0, .inr (5, [.ref (b 1), .ref (b 3), .ref (b 5), .ref (b 7), .int z2])), (a 1, .inr (3, [.ref (a 2)])), (a 2, .inl (Γ.2.1, 16, .inl (cpk (f 0) (g 0) 16))), (b 1, .inr (3, [.ref (b 2)])), (b 2, .inl (Γ.2.1, 16, .inl (g 0))), (a 3, .inr (3, [.ref (a 4)])), (a 4, .inl (Γ.2.1, 16, .inl (cpk (f 1) (g 1) 16))), (b 3, .inr (3, [.ref (b 4)])), (b 4, .inl (Γ.2.1, 16, .inl (g 1))), (a 5, .inr (3, [.ref (a 6)])), (a 6, .inl (Γ.2.1, 16, .inl (cpk (f 2) (g 2) 16))), (b 5, .inr (3, [.ref (b 6)])), (b 6, .inl (Γ.2.1, 16, .inl (g 2)))]) (m_X3_copyFrom l Γ _ (a 7) (a 8) (b 7) (b 8) 16 (f 3) (g 3) (by decide)) S k_X3_copyFrom gX5_copyFrom_X3_copyFrom rfl ⟨Nat.le_of_ble_eq_true rfl, Nat.le_of_ble_eq_true rfl⟩ hK hP hD hS hA [1, 2, 4, 5] [0, 3, 6, 7, 8, 9, 10, 11, 12, 13, 14, 15, 16, 17] rfl rfl (by decide) (by decide) (by decide) 0 (ci := 3) rfl rfl rfl rfl hl.1 (Nat.le_of_ble_eq_true rfl) rfl dX5_copyFrom_41 ⟨Nat.le_of_ble_eq_true rfl, Nat.le_of_ble_eq_true rfl⟩ (fun u H locs hr hP hD hS => ?_)
  have hP : gP Γ [(a 0, .inr (5, [.ref (a 1), .ref (a 3), .ref (a 5), .ref (a 7), .int z])), (b 0, .inr (5, [.ref (b 1), .ref (b 3), .ref (b 5), .ref (b 7), .int z2])), (a 1, .inr (3, [.ref (a 2)])), (a 2, .inl (Γ.2.1, 16, .inl (cpk (f 0) (g 0) 16))), (b 1, .inr (3, [.ref (b 2)])), (b 2, .inl (Γ.2.1, 16, .inl (g 0))), (a 3, .inr (3, [.ref (a 4)])), (a 4, .inl (Γ.2.1, 16, .inl (cpk (f 1) (g 1) 16))), (b 3, .inr (3, [.ref (b 4)])), (b 4, .inl (Γ.2.1, 16, .inl (g 1))), (a 5, .inr (3, [.ref (a 6)])), (a 6, .inl (Γ.2.1, 16, .inl (cpk (f 2) (g 2) 16))), (b 5, .inr (3, [.ref (b 6)])), (b 6, .inl (Γ.2.1, 16, .inl (g 2))), (a 7, .inr (3, [.ref (a 8)])), (a 8, .inl (Γ.2.1, 16, .inl (cpk (f 3) (g 3) 16))), (b 7, .inr (3, [.ref (b 8)])), (b 8, .inl (Γ.2.1, 16, .inl (g 3)))] H := hP
  have hD : va_D A [(a 0, .inr (5, [.ref (a 1), .ref (a 3), .ref (a 5), .ref (a 7), .int z])), (b 0, .inr (5, [.ref (b 1), .ref (b 3), .ref (b 5), .ref (b 7), .int z2])), (a 1, .inr (3, [.ref (a 2)])), (a 2, .inl (Γ.2.1, 16, .inl (cpk (f 0) (g 0) 16))), (b 1, .inr (3, [.ref (b 2)])), (b 2, .inl (Γ.2.1, 16, .inl (g 0))), (a 3, .inr (3, [.ref (a 4)])), (a 4, .inl (Γ.2.1, 16, .inl (cpk (f 1) (g 1) 16))), (b 3, .inr (3, [.ref (b 4)])), (b 4, .inl (Γ.2.1, 16, .inl (g 1))), (a 5, .inr (3, [.ref (a 6)])), (a 6, .inl (Γ.2.1, 16, .inl (cpk (f 2) (g 2) 16))), (b 5, .inr (3, [.ref (b 6)])), (b 6, .inl (Γ.2.1, 16, .inl (g 2))), (a 7, .inr (3, [.ref (a 8)])), (a 8, .inl (Γ.2.1, 16, .inl (cpk (f 3) (g 3) 16))), (b 7, .inr (3, [.ref (b 8)])), (b 8, .inl (Γ.2.1, 16, .inl (g 3)))] := hD
  refine lv_aload_n hx hb dX5_copyFrom_44 rfl (lv_at hl 0 rfl) ?_
  refine lv_aload_n hx hb dX5_copyFrom_45 rfl (lv_at hl 1 rfl) ?_
  refine va_get (D := Γ.1) (ci := 5) (v := .int z2) (C := RX5) (T := TX5) (N := 5) hx hb hts (by decide +kernel) hown hK hP 1 rfl rfl 4 (by decide) (hts (.fieldLink RX5 29 "RowVeils$Rows" "size" "I") (by decide +kernel)) (fun _ h9 => h9) rfl dX5_copyFrom_46 ?_
  refine va_put (D := Γ.1) (ci := 5) (v := .int z2) (ty := .int) (C := RX5) (T := TX5) (N := 5) hx hb hts (by decide +kernel) tyX5 tyX5_ok nmX5 hown hK hP hD hS 0 rfl rfl 4 (by decide) (hts (.fieldLink RX5 29 "RowVeils$Rows" "size" "I") (by decide +kernel)) (fun _ h9 => h9) rfl (by decide +kernel) rfl rfl (Nat.le_of_ble_eq_true rfl) dX5_copyFrom_49 (fun H locs hP hD hS => ?_)
  have hP : gP Γ [(a 0, .inr (5, [.ref (a 1), .ref (a 3), .ref (a 5), .ref (a 7), .int z2])), (b 0, .inr (5, [.ref (b 1), .ref (b 3), .ref (b 5), .ref (b 7), .int z2])), (a 1, .inr (3, [.ref (a 2)])), (a 2, .inl (Γ.2.1, 16, .inl (cpk (f 0) (g 0) 16))), (b 1, .inr (3, [.ref (b 2)])), (b 2, .inl (Γ.2.1, 16, .inl (g 0))), (a 3, .inr (3, [.ref (a 4)])), (a 4, .inl (Γ.2.1, 16, .inl (cpk (f 1) (g 1) 16))), (b 3, .inr (3, [.ref (b 4)])), (b 4, .inl (Γ.2.1, 16, .inl (g 1))), (a 5, .inr (3, [.ref (a 6)])), (a 6, .inl (Γ.2.1, 16, .inl (cpk (f 2) (g 2) 16))), (b 5, .inr (3, [.ref (b 6)])), (b 6, .inl (Γ.2.1, 16, .inl (g 2))), (a 7, .inr (3, [.ref (a 8)])), (a 8, .inl (Γ.2.1, 16, .inl (cpk (f 3) (g 3) 16))), (b 7, .inr (3, [.ref (b 8)])), (b 8, .inl (Γ.2.1, 16, .inl (g 3)))] H := hP
  have hD : va_D A [(a 0, .inr (5, [.ref (a 1), .ref (a 3), .ref (a 5), .ref (a 7), .int z2])), (b 0, .inr (5, [.ref (b 1), .ref (b 3), .ref (b 5), .ref (b 7), .int z2])), (a 1, .inr (3, [.ref (a 2)])), (a 2, .inl (Γ.2.1, 16, .inl (cpk (f 0) (g 0) 16))), (b 1, .inr (3, [.ref (b 2)])), (b 2, .inl (Γ.2.1, 16, .inl (g 0))), (a 3, .inr (3, [.ref (a 4)])), (a 4, .inl (Γ.2.1, 16, .inl (cpk (f 1) (g 1) 16))), (b 3, .inr (3, [.ref (b 4)])), (b 4, .inl (Γ.2.1, 16, .inl (g 1))), (a 5, .inr (3, [.ref (a 6)])), (a 6, .inl (Γ.2.1, 16, .inl (cpk (f 2) (g 2) 16))), (b 5, .inr (3, [.ref (b 6)])), (b 6, .inl (Γ.2.1, 16, .inl (g 2))), (a 7, .inr (3, [.ref (a 8)])), (a 8, .inl (Γ.2.1, 16, .inl (cpk (f 3) (g 3) 16))), (b 7, .inr (3, [.ref (b 8)])), (b 8, .inl (Γ.2.1, 16, .inl (g 3)))] := hD
  exact W.vret hx hb hrt (fun t9 ht9 hW9 => ⟨⟨(), rfl, trivial, wd_end hK hP hD [0, 2, 3, 6, 7, 10, 11, 14, 15, 1, 4, 5, 8, 9, 12, 13, 16, 17] (by decide) rfl t9 ht9 hW9⟩, hS.F ht9⟩) hS.2.2 dX5_copyFrom_52 hlk

abbrev rm_X4_copyFrom : Room := { frames := 2, cells := 0, slots := 0, locals := 43 }
theorem k_X4_copyFrom : Cal yX4_copyFrom wsX4_copyFrom rm_X4_copyFrom cX4_copyFrom 2 none 1 0 0 := ⟨⟨_, rfl⟩, rfl, rfl, by decide +kernel⟩
set_option maxHeartbeats 4000000 in
set_option maxRecDepth 100000 in
theorem m_X4_copyFrom (l : Launch) (Γ : Gm) (sz : Nat) (a b : Nat → Nat) (f g : Nat → Nat → Int32) : MWv (S := Unit) l yX4_copyFrom wsX4_copyFrom rm_X4_copyFrom Γ sz [(a 0, .inr (4, [.ref (a 1), .ref (a 3), .ref (a 5)])), (a 1, .inr (3, [.ref (a 2)])), (a 2, .inl (Γ.2.1, 5, .inl (f 0))), (a 3, .inr (3, [.ref (a 4)])), (a 4, .inl (Γ.2.1, 5, .inl (f 1))), (a 5, .inr (3, [.ref (a 6)])), (a 6, .inl (Γ.2.1, 5, .inl (f 2))), (b 0, .inr (4, [.ref (b 1), .ref (b 3), .ref (b 5)])), (b 1, .inr (3, [.ref (b 2)])), (b 2, .inl (Γ.2.1, 5, .inl (g 0))), (b 3, .inr (3, [.ref (b 4)])), (b 4, .inl (Γ.2.1, 5, .inl (g 1))), (b 5, .inr (3, [.ref (b 6)])), (b 6, .inl (Γ.2.1, 5, .inl (g 2)))] [.ref (a 0), .ref (b 0)] (fun u => True) (fun u => [(a 0, .inr (4, [.ref (a 1), .ref (a 3), .ref (a 5)])), (a 1, .inr (3, [.ref (a 2)])), (a 2, .inl (Γ.2.1, 5, .inl (cpk (f 0) (g 0) 5))), (a 3, .inr (3, [.ref (a 4)])), (a 4, .inl (Γ.2.1, 5, .inl (cpk (f 1) (g 1) 5))), (a 5, .inr (3, [.ref (a 6)])), (a 6, .inl (Γ.2.1, 5, .inl (cpk (f 2) (g 2) 5))), (b 0, .inr (4, [.ref (b 1), .ref (b 3), .ref (b 5)])), (b 1, .inr (3, [.ref (b 2)])), (b 2, .inl (Γ.2.1, 5, .inl (g 0))), (b 3, .inr (3, [.ref (b 4)])), (b 4, .inl (Γ.2.1, 5, .inl (g 1))), (b 5, .inr (3, [.ref (b 6)])), (b 6, .inl (Γ.2.1, 5, .inl (g 2)))]) 0 0 := by
  refine mW (cc := cX4_copyFrom) (maxL := 2) (ret := none) (own := RX4) (by decide) rfl rfl (Nat.le_of_ble_eq_true rfl) ?_
  intro p e s m args below meth c S hrt hlk hin hsz hK hP hD hA hS ls hl
  subst hsz
  generalize hAe : va_A ([(a 0, .inr (4, [.ref (a 1), .ref (a 3), .ref (a 5)])), (a 1, .inr (3, [.ref (a 2)])), (a 2, .inl (Γ.2.1, 5, .inl (f 0))), (a 3, .inr (3, [.ref (a 4)])), (a 4, .inl (Γ.2.1, 5, .inl (f 1))), (a 5, .inr (3, [.ref (a 6)])), (a 6, .inl (Γ.2.1, 5, .inl (f 2))), (b 0, .inr (4, [.ref (b 1), .ref (b 3), .ref (b 5)])), (b 1, .inr (3, [.ref (b 2)])), (b 2, .inl (Γ.2.1, 5, .inl (g 0))), (b 3, .inr (3, [.ref (b 4)])), (b 4, .inl (Γ.2.1, 5, .inl (g 1))), (b 5, .inr (3, [.ref (b 6)])), (b 6, .inl (Γ.2.1, 5, .inl (g 2)))]) s.heap.size = A at hD hA hS ⊢
  obtain ⟨hx, hb, hml, hown, hts⟩ := id S
  have hl : lv_has ls 2 [(0, .ref (a 0)), (1, .ref (b 0))] := hl
  have hH : s.heap = s.heap := rfl
  refine lv_aload_n hx hb dX4_copyFrom_0 rfl (lv_at hl 0 rfl) ?_
  refine va_get (D := Γ.1) (ci := 4) (v := .ref (a 1)) (C := RX4) (T := TX4) (N := 3) hx hb hts (by decide +kernel) hown hK hP 0 rfl rfl 0 (by decide) (hts (.fieldLink RX4 14 "RowVeils$People" "ranks" "LRowVeils$Numbers;") (by decide +kernel)) (fun _ h9 => h9) rfl dX4_copyFrom_1 ?_
  refine lv_aload_n hx hb dX4_copyFrom_4 rfl (lv_at hl 1 rfl) ?_
  refine va_get (D := Γ.1) (ci := 4) (v := .ref (b 1)) (C := RX4) (T := TX4) (N := 3) hx hb hts (by decide +kernel) hown hK hP 7 rfl rfl 0 (by decide) (hts (.fieldLink RX4 14 "RowVeils$People" "ranks" "LRowVeils$Numbers;") (by decide +kernel)) (fun _ h9 => h9) rfl dX4_copyFrom_5 ?_
  refine cWv (As := [.ref (b 1)]) (rest := []) (wr := [(a 0, .inr (4, [.ref (a 1), .ref (a 3), .ref (a 5)])), (a 3, .inr (3, [.ref (a 4)])), (a 4, .inl (Γ.2.1, 5, .inl (f 1))), (a 5, .inr (3, [.ref (a 6)])), (a 6, .inl (Γ.2.1, 5, .inl (f 2))), (b 0, .inr (4, [.ref (b 1), .ref (b 3), .ref (b 5)])), (b 3, .inr (3, [.ref (b 4)])), (b 4, .inl (Γ.2.1, 5, .inl (g 1))), (b 5, .inr (3, [.ref (b 6)])), (b 6, .inl (Γ.2.1, 5, .inl (g 2)))]) (m_X3_copyFrom l Γ _ (a 1) (a 2) (b 1) (b 2) 5 (f 0) (g 0) (by decide)) S k_X3_copyFrom gX4_copyFrom_X3_copyFrom rfl ⟨Nat.le_of_ble_eq_true rfl, Nat.le_of_ble_eq_true rfl⟩ hK hP hD hS hA [1, 2, 8, 9] [0, 3, 4, 5, 6, 7, 10, 11, 12, 13] rfl rfl (by decide) (by decide) (by decide) 0 (ci := 3) rfl rfl rfl rfl hl.1 (Nat.le_of_ble_eq_true rfl) rfl dX4_copyFrom_8 ⟨Nat.le_of_ble_eq_true rfl, Nat.le_of_ble_eq_true rfl⟩ (fun u H locs hr hP hD hS => ?_)
  have hP : gP Γ [(a 0, .inr (4, [.ref (a 1), .ref (a 3), .ref (a 5)])), (a 3, .inr (3, [.ref (a 4)])), (a 4, .inl (Γ.2.1, 5, .inl (f 1))), (a 5, .inr (3, [.ref (a 6)])), (a 6, .inl (Γ.2.1, 5, .inl (f 2))), (b 0, .inr (4, [.ref (b 1), .ref (b 3), .ref (b 5)])), (b 3, .inr (3, [.ref (b 4)])), (b 4, .inl (Γ.2.1, 5, .inl (g 1))), (b 5, .inr (3, [.ref (b 6)])), (b 6, .inl (Γ.2.1, 5, .inl (g 2))), (a 1, .inr (3, [.ref (a 2)])), (a 2, .inl (Γ.2.1, 5, .inl (cpk (f 0) (g 0) 5))), (b 1, .inr (3, [.ref (b 2)])), (b 2, .inl (Γ.2.1, 5, .inl (g 0)))] H := hP
  have hD : va_D A [(a 0, .inr (4, [.ref (a 1), .ref (a 3), .ref (a 5)])), (a 3, .inr (3, [.ref (a 4)])), (a 4, .inl (Γ.2.1, 5, .inl (f 1))), (a 5, .inr (3, [.ref (a 6)])), (a 6, .inl (Γ.2.1, 5, .inl (f 2))), (b 0, .inr (4, [.ref (b 1), .ref (b 3), .ref (b 5)])), (b 3, .inr (3, [.ref (b 4)])), (b 4, .inl (Γ.2.1, 5, .inl (g 1))), (b 5, .inr (3, [.ref (b 6)])), (b 6, .inl (Γ.2.1, 5, .inl (g 2))), (a 1, .inr (3, [.ref (a 2)])), (a 2, .inl (Γ.2.1, 5, .inl (cpk (f 0) (g 0) 5))), (b 1, .inr (3, [.ref (b 2)])), (b 2, .inl (Γ.2.1, 5, .inl (g 0)))] := hD
  refine lv_aload_n hx hb dX4_copyFrom_11 rfl (lv_at hl 0 rfl) ?_
  refine va_get (D := Γ.1) (ci := 4) (v := .ref (a 3)) (C := RX4) (T := TX4) (N := 3) hx hb hts (by decide +kernel) hown hK hP 0 rfl rfl 1 (by decide) (hts (.fieldLink RX4 20 "RowVeils$People" "homes" "LRowVeils$Numbers;") (by decide +kernel)) (fun _ h9 => h9) rfl dX4_copyFrom_12 ?_
  refine lv_aload_n hx hb dX4_copyFrom_15 rfl (lv_at hl 1 rfl) ?_
  refine va_get (D := Γ.1) (ci := 4) (v := .ref (b 3)) (C := RX4) (T := TX4) (N := 3) hx hb hts (by decide +kernel) hown hK hP 5 rfl rfl 1 (by decide) (hts (.fieldLink RX4 20 "RowVeils$People" "homes" "LRowVeils$Numbers;") (by decide +kernel)) (fun _ h9 => h9) rfl dX4_copyFrom_16 ?_
  refine cWv (As := [.ref (b 3)]) (rest := []) (wr := [(a 0, .inr (4, [.ref (a 1), .ref (a 3), .ref (a 5)])), (a 5, .inr (3, [.ref (a 6)])), (a 6, .inl (Γ.2.1, 5, .inl (f 2))), (b 0, .inr (4, [.ref (b 1), .ref (b 3), .ref (b 5)])), (b 5, .inr (3, [.ref (b 6)])), (b 6, .inl (Γ.2.1, 5, .inl (g 2))), (a 1, .inr (3, [.ref (a 2)])), (a 2, .inl (Γ.2.1, 5, .inl (cpk (f 0) (g 0) 5))), (b 1, .inr (3, [.ref (b 2)])), (b 2, .inl (Γ.2.1, 5, .inl (g 0)))]) (m_X3_copyFrom l Γ _ (a 3) (a 4) (b 3) (b 4) 5 (f 1) (g 1) (by decide)) S k_X3_copyFrom gX4_copyFrom_X3_copyFrom rfl ⟨Nat.le_of_ble_eq_true rfl, Nat.le_of_ble_eq_true rfl⟩ hK hP hD hS hA [1, 2, 6, 7] [0, 3, 4, 5, 8, 9, 10, 11, 12, 13] rfl rfl (by decide) (by decide) (by decide) 0 (ci := 3) rfl rfl rfl rfl hl.1 (Nat.le_of_ble_eq_true rfl) rfl dX4_copyFrom_19 ⟨Nat.le_of_ble_eq_true rfl, Nat.le_of_ble_eq_true rfl⟩ (fun u H locs hr hP hD hS => ?_)
  have hP : gP Γ [(a 0, .inr (4, [.ref (a 1), .ref (a 3), .ref (a 5)])), (a 5, .inr (3, [.ref (a 6)])), (a 6, .inl (Γ.2.1, 5, .inl (f 2))), (b 0, .inr (4, [.ref (b 1), .ref (b 3), .ref (b 5)])), (b 5, .inr (3, [.ref (b 6)])), (b 6, .inl (Γ.2.1, 5, .inl (g 2))), (a 1, .inr (3, [.ref (a 2)])), (a 2, .inl (Γ.2.1, 5, .inl (cpk (f 0) (g 0) 5))), (b 1, .inr (3, [.ref (b 2)])), (b 2, .inl (Γ.2.1, 5, .inl (g 0))), (a 3, .inr (3, [.ref (a 4)])), (a 4, .inl (Γ.2.1, 5, .inl (cpk (f 1) (g 1) 5))), (b 3, .inr (3, [.ref (b 4)])), (b 4, .inl (Γ.2.1, 5, .inl (g 1)))] H := hP
  have hD : va_D A [(a 0, .inr (4, [.ref (a 1), .ref (a 3), .ref (a 5)])), (a 5, .inr (3, [.ref (a 6)])), (a 6, .inl (Γ.2.1, 5, .inl (f 2))), (b 0, .inr (4, [.ref (b 1), .ref (b 3), .ref (b 5)])), (b 5, .inr (3, [.ref (b 6)])), (b 6, .inl (Γ.2.1, 5, .inl (g 2))), (a 1, .inr (3, [.ref (a 2)])), (a 2, .inl (Γ.2.1, 5, .inl (cpk (f 0) (g 0) 5))), (b 1, .inr (3, [.ref (b 2)])), (b 2, .inl (Γ.2.1, 5, .inl (g 0))), (a 3, .inr (3, [.ref (a 4)])), (a 4, .inl (Γ.2.1, 5, .inl (cpk (f 1) (g 1) 5))), (b 3, .inr (3, [.ref (b 4)])), (b 4, .inl (Γ.2.1, 5, .inl (g 1)))] := hD
  refine lv_aload_n hx hb dX4_copyFrom_22 rfl (lv_at hl 0 rfl) ?_
  refine va_get (D := Γ.1) (ci := 4) (v := .ref (a 5)) (C := RX4) (T := TX4) (N := 3) hx hb hts (by decide +kernel) hown hK hP 0 rfl rfl 2 (by decide) (hts (.fieldLink RX4 23 "RowVeils$People" "masters" "LRowVeils$Numbers;") (by decide +kernel)) (fun _ h9 => h9) rfl dX4_copyFrom_23 ?_
  refine lv_aload_n hx hb dX4_copyFrom_26 rfl (lv_at hl 1 rfl) ?_
  refine va_get (D := Γ.1) (ci := 4) (v := .ref (b 5)) (C := RX4) (T := TX4) (N := 3) hx hb hts (by decide +kernel) hown hK hP 3 rfl rfl 2 (by decide) (hts (.fieldLink RX4 23 "RowVeils$People" "masters" "LRowVeils$Numbers;") (by decide +kernel)) (fun _ h9 => h9) rfl dX4_copyFrom_27 ?_
  refine cWv (As := [.ref (b 5)]) (rest := []) (wr := [(a 0, .inr (4, [.ref (a 1), .ref (a 3), .ref (a 5)])), (b 0, .inr (4, [.ref (b 1), .ref (b 3), .ref (b 5)])), (a 1, .inr (3, [.ref (a 2)])), (a 2, .inl (Γ.2.1, 5, .inl (cpk (f 0) (g 0) 5))), (b 1, .inr (3, [.ref (b 2)])), (b 2, .inl (Γ.2.1, 5, .inl (g 0))), (a 3, .inr (3, [.ref (a 4)])), (a 4, .inl (Γ.2.1, 5, .inl (cpk (f 1) (g 1) 5))), (b 3, .inr (3, [.ref (b 4)])), (b 4, .inl (Γ.2.1, 5, .inl (g 1)))]) (m_X3_copyFrom l Γ _ (a 5) (a 6) (b 5) (b 6) 5 (f 2) (g 2) (by decide)) S k_X3_copyFrom gX4_copyFrom_X3_copyFrom rfl ⟨Nat.le_of_ble_eq_true rfl, Nat.le_of_ble_eq_true rfl⟩ hK hP hD hS hA [1, 2, 4, 5] [0, 3, 6, 7, 8, 9, 10, 11, 12, 13] rfl rfl (by decide) (by decide) (by decide) 0 (ci := 3) rfl rfl rfl rfl hl.1 (Nat.le_of_ble_eq_true rfl) rfl dX4_copyFrom_30 ⟨Nat.le_of_ble_eq_true rfl, Nat.le_of_ble_eq_true rfl⟩ (fun u H locs hr hP hD hS => ?_)
  have hP : gP Γ [(a 0, .inr (4, [.ref (a 1), .ref (a 3), .ref (a 5)])), (b 0, .inr (4, [.ref (b 1), .ref (b 3), .ref (b 5)])), (a 1, .inr (3, [.ref (a 2)])), (a 2, .inl (Γ.2.1, 5, .inl (cpk (f 0) (g 0) 5))), (b 1, .inr (3, [.ref (b 2)])), (b 2, .inl (Γ.2.1, 5, .inl (g 0))), (a 3, .inr (3, [.ref (a 4)])), (a 4, .inl (Γ.2.1, 5, .inl (cpk (f 1) (g 1) 5))), (b 3, .inr (3, [.ref (b 4)])), (b 4, .inl (Γ.2.1, 5, .inl (g 1))), (a 5, .inr (3, [.ref (a 6)])), (a 6, .inl (Γ.2.1, 5, .inl (cpk (f 2) (g 2) 5))), (b 5, .inr (3, [.ref (b 6)])), (b 6, .inl (Γ.2.1, 5, .inl (g 2)))] H := hP
  have hD : va_D A [(a 0, .inr (4, [.ref (a 1), .ref (a 3), .ref (a 5)])), (b 0, .inr (4, [.ref (b 1), .ref (b 3), .ref (b 5)])), (a 1, .inr (3, [.ref (a 2)])), (a 2, .inl (Γ.2.1, 5, .inl (cpk (f 0) (g 0) 5))), (b 1, .inr (3, [.ref (b 2)])), (b 2, .inl (Γ.2.1, 5, .inl (g 0))), (a 3, .inr (3, [.ref (a 4)])), (a 4, .inl (Γ.2.1, 5, .inl (cpk (f 1) (g 1) 5))), (b 3, .inr (3, [.ref (b 4)])), (b 4, .inl (Γ.2.1, 5, .inl (g 1))), (a 5, .inr (3, [.ref (a 6)])), (a 6, .inl (Γ.2.1, 5, .inl (cpk (f 2) (g 2) 5))), (b 5, .inr (3, [.ref (b 6)])), (b 6, .inl (Γ.2.1, 5, .inl (g 2)))] := hD
  exact W.vret hx hb hrt (fun t9 ht9 hW9 => ⟨⟨(), rfl, trivial, wd_end hK hP hD [0, 2, 3, 6, 7, 10, 11, 1, 4, 5, 8, 9, 12, 13] (by decide) rfl t9 ht9 hW9⟩, hS.F ht9⟩) hS.2.2 dX4_copyFrom_33 hlk

abbrev rm_X2_copyFrom : Room := { frames := 2, cells := 0, slots := 0, locals := 43 }
theorem k_X2_copyFrom : Cal yX2_copyFrom wsX2_copyFrom rm_X2_copyFrom cX2_copyFrom 2 none 1 0 0 := ⟨⟨_, rfl⟩, rfl, rfl, by decide +kernel⟩
set_option maxHeartbeats 4000000 in
set_option maxRecDepth 100000 in
theorem m_X2_copyFrom (l : Launch) (Γ : Gm) (sz : Nat) (a b : Nat → Nat) (f g : Nat → Nat → Int32) : MWv (S := Unit) l yX2_copyFrom wsX2_copyFrom rm_X2_copyFrom Γ sz [(a 0, .inr (2, [.ref (a 1), .ref (a 3)])), (a 1, .inr (3, [.ref (a 2)])), (a 2, .inl (Γ.2.1, 30, .inl (f 0))), (a 3, .inr (3, [.ref (a 4)])), (a 4, .inl (Γ.2.1, 5, .inl (f 1))), (b 0, .inr (2, [.ref (b 1), .ref (b 3)])), (b 1, .inr (3, [.ref (b 2)])), (b 2, .inl (Γ.2.1, 30, .inl (g 0))), (b 3, .inr (3, [.ref (b 4)])), (b 4, .inl (Γ.2.1, 5, .inl (g 1)))] [.ref (a 0), .ref (b 0)] (fun u => True) (fun u => [(a 0, .inr (2, [.ref (a 1), .ref (a 3)])), (a 1, .inr (3, [.ref (a 2)])), (a 2, .inl (Γ.2.1, 30, .inl (cpk (f 0) (g 0) 30))), (a 3, .inr (3, [.ref (a 4)])), (a 4, .inl (Γ.2.1, 5, .inl (cpk (f 1) (g 1) 5))), (b 0, .inr (2, [.ref (b 1), .ref (b 3)])), (b 1, .inr (3, [.ref (b 2)])), (b 2, .inl (Γ.2.1, 30, .inl (g 0))), (b 3, .inr (3, [.ref (b 4)])), (b 4, .inl (Γ.2.1, 5, .inl (g 1)))]) 0 0 := by
  refine mW (cc := cX2_copyFrom) (maxL := 2) (ret := none) (own := RX2) (by decide) rfl rfl (Nat.le_of_ble_eq_true rfl) ?_
  intro p e s m args below meth c S hrt hlk hin hsz hK hP hD hA hS ls hl
  subst hsz
  generalize hAe : va_A ([(a 0, .inr (2, [.ref (a 1), .ref (a 3)])), (a 1, .inr (3, [.ref (a 2)])), (a 2, .inl (Γ.2.1, 30, .inl (f 0))), (a 3, .inr (3, [.ref (a 4)])), (a 4, .inl (Γ.2.1, 5, .inl (f 1))), (b 0, .inr (2, [.ref (b 1), .ref (b 3)])), (b 1, .inr (3, [.ref (b 2)])), (b 2, .inl (Γ.2.1, 30, .inl (g 0))), (b 3, .inr (3, [.ref (b 4)])), (b 4, .inl (Γ.2.1, 5, .inl (g 1)))]) s.heap.size = A at hD hA hS ⊢
  obtain ⟨hx, hb, hml, hown, hts⟩ := id S
  have hl : lv_has ls 2 [(0, .ref (a 0)), (1, .ref (b 0))] := hl
  have hH : s.heap = s.heap := rfl
  refine lv_aload_n hx hb dX2_copyFrom_0 rfl (lv_at hl 0 rfl) ?_
  refine va_get (D := Γ.1) (ci := 2) (v := .ref (a 1)) (C := RX2) (T := TX2) (N := 2) hx hb hts (by decide +kernel) hown hK hP 0 rfl rfl 0 (by decide) (hts (.fieldLink RX2 14 "RowVeils$Memory" "masks" "LRowVeils$Numbers;") (by decide +kernel)) (fun _ h9 => h9) rfl dX2_copyFrom_1 ?_
  refine lv_aload_n hx hb dX2_copyFrom_4 rfl (lv_at hl 1 rfl) ?_
  refine va_get (D := Γ.1) (ci := 2) (v := .ref (b 1)) (C := RX2) (T := TX2) (N := 2) hx hb hts (by decide +kernel) hown hK hP 5 rfl rfl 0 (by decide) (hts (.fieldLink RX2 14 "RowVeils$Memory" "masks" "LRowVeils$Numbers;") (by decide +kernel)) (fun _ h9 => h9) rfl dX2_copyFrom_5 ?_
  refine cWv (As := [.ref (b 1)]) (rest := []) (wr := [(a 0, .inr (2, [.ref (a 1), .ref (a 3)])), (a 3, .inr (3, [.ref (a 4)])), (a 4, .inl (Γ.2.1, 5, .inl (f 1))), (b 0, .inr (2, [.ref (b 1), .ref (b 3)])), (b 3, .inr (3, [.ref (b 4)])), (b 4, .inl (Γ.2.1, 5, .inl (g 1)))]) (m_X3_copyFrom l Γ _ (a 1) (a 2) (b 1) (b 2) 30 (f 0) (g 0) (by decide)) S k_X3_copyFrom gX2_copyFrom_X3_copyFrom rfl ⟨Nat.le_of_ble_eq_true rfl, Nat.le_of_ble_eq_true rfl⟩ hK hP hD hS hA [1, 2, 6, 7] [0, 3, 4, 5, 8, 9] rfl rfl (by decide) (by decide) (by decide) 0 (ci := 3) rfl rfl rfl rfl hl.1 (Nat.le_of_ble_eq_true rfl) rfl dX2_copyFrom_8 ⟨Nat.le_of_ble_eq_true rfl, Nat.le_of_ble_eq_true rfl⟩ (fun u H locs hr hP hD hS => ?_)
  have hP : gP Γ [(a 0, .inr (2, [.ref (a 1), .ref (a 3)])), (a 3, .inr (3, [.ref (a 4)])), (a 4, .inl (Γ.2.1, 5, .inl (f 1))), (b 0, .inr (2, [.ref (b 1), .ref (b 3)])), (b 3, .inr (3, [.ref (b 4)])), (b 4, .inl (Γ.2.1, 5, .inl (g 1))), (a 1, .inr (3, [.ref (a 2)])), (a 2, .inl (Γ.2.1, 30, .inl (cpk (f 0) (g 0) 30))), (b 1, .inr (3, [.ref (b 2)])), (b 2, .inl (Γ.2.1, 30, .inl (g 0)))] H := hP
  have hD : va_D A [(a 0, .inr (2, [.ref (a 1), .ref (a 3)])), (a 3, .inr (3, [.ref (a 4)])), (a 4, .inl (Γ.2.1, 5, .inl (f 1))), (b 0, .inr (2, [.ref (b 1), .ref (b 3)])), (b 3, .inr (3, [.ref (b 4)])), (b 4, .inl (Γ.2.1, 5, .inl (g 1))), (a 1, .inr (3, [.ref (a 2)])), (a 2, .inl (Γ.2.1, 30, .inl (cpk (f 0) (g 0) 30))), (b 1, .inr (3, [.ref (b 2)])), (b 2, .inl (Γ.2.1, 30, .inl (g 0)))] := hD
  refine lv_aload_n hx hb dX2_copyFrom_11 rfl (lv_at hl 0 rfl) ?_
  refine va_get (D := Γ.1) (ci := 2) (v := .ref (a 3)) (C := RX2) (T := TX2) (N := 2) hx hb hts (by decide +kernel) hown hK hP 0 rfl rfl 1 (by decide) (hts (.fieldLink RX2 20 "RowVeils$Memory" "kept" "LRowVeils$Numbers;") (by decide +kernel)) (fun _ h9 => h9) rfl dX2_copyFrom_12 ?_
  refine lv_aload_n hx hb dX2_copyFrom_15 rfl (lv_at hl 1 rfl) ?_
  refine va_get (D := Γ.1) (ci := 2) (v := .ref (b 3)) (C := RX2) (T := TX2) (N := 2) hx hb hts (by decide +kernel) hown hK hP 3 rfl rfl 1 (by decide) (hts (.fieldLink RX2 20 "RowVeils$Memory" "kept" "LRowVeils$Numbers;") (by decide +kernel)) (fun _ h9 => h9) rfl dX2_copyFrom_16 ?_
  refine cWv (As := [.ref (b 3)]) (rest := []) (wr := [(a 0, .inr (2, [.ref (a 1), .ref (a 3)])), (b 0, .inr (2, [.ref (b 1), .ref (b 3)])), (a 1, .inr (3, [.ref (a 2)])), (a 2, .inl (Γ.2.1, 30, .inl (cpk (f 0) (g 0) 30))), (b 1, .inr (3, [.ref (b 2)])), (b 2, .inl (Γ.2.1, 30, .inl (g 0)))]) (m_X3_copyFrom l Γ _ (a 3) (a 4) (b 3) (b 4) 5 (f 1) (g 1) (by decide)) S k_X3_copyFrom gX2_copyFrom_X3_copyFrom rfl ⟨Nat.le_of_ble_eq_true rfl, Nat.le_of_ble_eq_true rfl⟩ hK hP hD hS hA [1, 2, 4, 5] [0, 3, 6, 7, 8, 9] rfl rfl (by decide) (by decide) (by decide) 0 (ci := 3) rfl rfl rfl rfl hl.1 (Nat.le_of_ble_eq_true rfl) rfl dX2_copyFrom_19 ⟨Nat.le_of_ble_eq_true rfl, Nat.le_of_ble_eq_true rfl⟩ (fun u H locs hr hP hD hS => ?_)
  have hP : gP Γ [(a 0, .inr (2, [.ref (a 1), .ref (a 3)])), (b 0, .inr (2, [.ref (b 1), .ref (b 3)])), (a 1, .inr (3, [.ref (a 2)])), (a 2, .inl (Γ.2.1, 30, .inl (cpk (f 0) (g 0) 30))), (b 1, .inr (3, [.ref (b 2)])), (b 2, .inl (Γ.2.1, 30, .inl (g 0))), (a 3, .inr (3, [.ref (a 4)])), (a 4, .inl (Γ.2.1, 5, .inl (cpk (f 1) (g 1) 5))), (b 3, .inr (3, [.ref (b 4)])), (b 4, .inl (Γ.2.1, 5, .inl (g 1)))] H := hP
  have hD : va_D A [(a 0, .inr (2, [.ref (a 1), .ref (a 3)])), (b 0, .inr (2, [.ref (b 1), .ref (b 3)])), (a 1, .inr (3, [.ref (a 2)])), (a 2, .inl (Γ.2.1, 30, .inl (cpk (f 0) (g 0) 30))), (b 1, .inr (3, [.ref (b 2)])), (b 2, .inl (Γ.2.1, 30, .inl (g 0))), (a 3, .inr (3, [.ref (a 4)])), (a 4, .inl (Γ.2.1, 5, .inl (cpk (f 1) (g 1) 5))), (b 3, .inr (3, [.ref (b 4)])), (b 4, .inl (Γ.2.1, 5, .inl (g 1)))] := hD
  exact W.vret hx hb hrt (fun t9 ht9 hW9 => ⟨⟨(), rfl, trivial, wd_end hK hP hD [0, 2, 3, 6, 7, 1, 4, 5, 8, 9] (by decide) rfl t9 ht9 hW9⟩, hS.F ht9⟩) hS.2.2 dX2_copyFrom_22 hlk

abbrev rm_X2_maskAt : Room := { frames := 1, cells := 0, slots := 0, locals := 21 }
theorem k_X2_maskAt : Cal yX2_maskAt wsX2_maskAt rm_X2_maskAt cX2_maskAt 3 (some .int) 2 0 0 := ⟨⟨_, rfl⟩, rfl, rfl, by decide +kernel⟩
set_option maxHeartbeats 4000000 in
set_option maxRecDepth 100000 in
theorem m_X2_maskAt (l : Launch) (Γ : Gm) (a : Nat → Nat) (f : Nat → Nat → Int32) (p0 K : Nat) (hp : p0 < 5) (hK6 : K ≤ 6) (hk0 : f 1 p0 = nI K) (j : Nat) (hj : j < 2 ^ 31) : MRi l yX2_maskAt wsX2_maskAt rm_X2_maskAt Γ [(a 0, .inr (2, [.ref (a 1), .ref (a 3)])), (a 1, .inr (3, [.ref (a 2)])), (a 2, .inl (Γ.2.1, 30, .inl (f 0))), (a 3, .inr (3, [.ref (a 4)])), (a 4, .inl (Γ.2.1, 5, .inl (f 1)))] [.ref (a 0), .int (nI p0), .int (nI j)] (fun r => r = if j < K then f 0 (p0 * 6 + j) else (-1)) := by
  refine mR (cc := cX2_maskAt) (maxL := 3) (ret := (some .int)) (own := RX2) (by decide) rfl rfl (Nat.le_of_ble_eq_true rfl) ?_
  intro p e s m args below meth c S hrt hlk hK hP ls hl
  obtain ⟨hx, hb, hml, hown, hts⟩ := id S
  have hl : lv_has ls 3 [(0, .ref (a 0)), (1, .int (nI p0)), (2, .int (nI j))] := hl
  have hP : gP Γ [(a 0, .inr (2, [.ref (a 1), .ref (a 3)])), (a 1, .inr (3, [.ref (a 2)])), (a 2, .inl (Γ.2.1, 30, .inl (f 0))), (a 3, .inr (3, [.ref (a 4)])), (a 4, .inl (Γ.2.1, 5, .inl (f 1)))] s.heap := hP
  refine lv_iload_n hx hb dX2_maskAt_0 rfl (lv_at hl 2 rfl) ?_
  refine lv_if_lt (tgt := 32) hx hb dX2_maskAt_1 (by decide) (fun c_1 => ?_) (fun c_1 => ?_)
  · have n_1 := (nI_ltI (a := j) (b := 0) (by omega) (by omega)).mp c_1
    exact absurd n_1 (by omega)
  · have n_1 := (not_congr (nI_ltI (a := j) (b := 0) (by omega) (by omega))).mp c_1
    refine lv_iload_n hx hb dX2_maskAt_4 rfl (lv_at hl 2 rfl) ?_
    refine lv_aload_n hx hb dX2_maskAt_5 rfl (lv_at hl 0 rfl) ?_
    refine va_get (D := Γ.1) (ci := 2) (v := .ref (a 3)) (C := RX2) (T := TX2) (N := 2) hx hb hts (by decide +kernel) hown hK hP 0 rfl rfl 1 (by decide) (hts (.fieldLink RX2 20 "RowVeils$Memory" "kept" "LRowVeils$Numbers;") (by decide +kernel)) (fun _ h9 => h9) rfl dX2_maskAt_6 ?_
    refine lv_iload_n hx hb dX2_maskAt_9 rfl (lv_at hl 1 rfl) ?_
    refine cRi (As := [.int (nI p0)]) (rest := [.int (nI j)]) (m_X3_get l Γ (a 3) (a 4) 5 p0 (f 1) (by decide) (by omega)) S k_X3_get gX2_maskAt_X3_get rfl ⟨Nat.le_of_ble_eq_true rfl, Nat.le_of_ble_eq_true rfl⟩ hK hP [3, 4] rfl 0 (ci := 3) rfl rfl rfl rfl hl.1 (Nat.le_of_ble_eq_true rfl) rfl dX2_maskAt_10 ⟨Nat.le_of_ble_eq_true rfl, Nat.le_of_ble_eq_true rfl⟩ (fun r hr => ?_)
    subst hr
    refine asi (z := nI K) (hk0) ?_
    refine lv_icmp_ge (tgt := 32) hx hb dX2_maskAt_13 (by decide) (fun c_13 => ?_) (fun c_13 => ?_)
    · have n_13 := (nI_leI (a := K) (b := j) (by omega) (by omega)).mp c_13
      refine lv_iconst (v := (-1)) hx hb dX2_maskAt_32 (by decide) ?_
      exact W.iret (v := (-1)) hx hb hrt (fun t9 ht9 hW9 => ⟨_, rfl, (if_neg (by omega)).symm, ht9⟩) (fun _ h9 => nomatch h9) dX2_maskAt_33 hlk
    · have n_13 := (not_congr (nI_leI (a := K) (b := j) (by omega) (by omega))).mp c_13
      refine lv_aload_n hx hb dX2_maskAt_16 rfl (lv_at hl 0 rfl) ?_
      refine va_get (D := Γ.1) (ci := 2) (v := .ref (a 1)) (C := RX2) (T := TX2) (N := 2) hx hb hts (by decide +kernel) hown hK hP 0 rfl rfl 0 (by decide) (hts (.fieldLink RX2 14 "RowVeils$Memory" "masks" "LRowVeils$Numbers;") (by decide +kernel)) (fun _ h9 => h9) rfl dX2_maskAt_17 ?_
      refine lv_iload_n hx hb dX2_maskAt_20 rfl (lv_at hl 1 rfl) ?_
      refine lv_bipush (v := nI 6) hx hb dX2_maskAt_21 (by decide) ?_
      refine lv_imul hx hb dX2_maskAt_23 ?_
      refine asi (z := nI (p0 * 6)) (pk_mul _ _) ?_
      refine lv_iload_n hx hb dX2_maskAt_24 rfl (lv_at hl 2 rfl) ?_
      refine lv_iadd hx hb dX2_maskAt_25 ?_
      refine asi (z := nI ((p0 * 6) + j)) (nI_add _ _) ?_
      refine cRi (As := [.int (nI ((p0 * 6) + j))]) (rest := []) (m_X3_get l Γ (a 1) (a 2) 30 (p0 * 6 + j) (f 0) (by decide) (by omega)) S k_X3_get gX2_maskAt_X3_get rfl ⟨Nat.le_of_ble_eq_true rfl, Nat.le_of_ble_eq_true rfl⟩ hK hP [1, 2] rfl 0 (ci := 3) rfl rfl rfl rfl hl.1 (Nat.le_of_ble_eq_true rfl) rfl dX2_maskAt_26 ⟨Nat.le_of_ble_eq_true rfl, Nat.le_of_ble_eq_true rfl⟩ (fun r hr => ?_)
      subst hr
      refine lv_goto (tgt := 33) hx hb dX2_maskAt_29 (by decide) ?_
      exact W.iret (v := (f 0) (p0 * 6 + j)) hx hb hrt (fun t9 ht9 hW9 => ⟨_, rfl, (if_pos (by omega)).symm, ht9⟩) (fun _ h9 => nomatch h9) dX2_maskAt_33 hlk

abbrev rm_X2_givesAway : Room := { frames := 2, cells := 0, slots := 0, locals := 43 }
theorem k_X2_givesAway : Cal yX2_givesAway wsX2_givesAway rm_X2_givesAway cX2_givesAway 4 (some .boolean) 2 0 0 := ⟨⟨_, rfl⟩, rfl, rfl, by decide +kernel⟩
set_option maxHeartbeats 4000000 in
set_option maxRecDepth 100000 in
theorem m_X2_givesAway (l : Launch) (Γ : Gm) (a : Nat → Nat) (f : Nat → Nat → Int32) (p0 K : Nat) (hp : p0 < 5) (hK6 : K ≤ 6) (hk0 : f 1 p0 = nI K) (x : Int32) : MRi l yX2_givesAway wsX2_givesAway rm_X2_givesAway Γ [(a 0, .inr (2, [.ref (a 1), .ref (a 3)])), (a 1, .inr (3, [.ref (a 2)])), (a 2, .inl (Γ.2.1, 30, .inl (f 0))), (a 3, .inr (3, [.ref (a 4)])), (a 4, .inl (Γ.2.1, 5, .inl (f 1)))] [.ref (a 0), .int (nI p0), .int x] (fun r => r = bI (gvI (f 0) p0 x K)) := by
  refine mR (cc := cX2_givesAway) (maxL := 4) (ret := (some .boolean)) (own := RX2) (by decide) rfl rfl (Nat.le_of_ble_eq_true rfl) ?_
  intro p e s m args below meth c S hrt hlk hK hP ls hl
  obtain ⟨hx, hb, hml, hown, hts⟩ := id S
  have hl : lv_has ls 4 [(0, .ref (a 0)), (1, .int (nI p0)), (2, .int x)] := hl
  have hP : gP Γ [(a 0, .inr (2, [.ref (a 1), .ref (a 3)])), (a 1, .inr (3, [.ref (a 2)])), (a 2, .inl (Γ.2.1, 30, .inl (f 0))), (a 3, .inr (3, [.ref (a 4)])), (a 4, .inl (Γ.2.1, 5, .inl (f 1)))] s.heap := hP
  have L_2 : ∀ (fuel : Nat), ∀ (k : Nat) (hk : k ≤ K) (hfk : K - k < fuel) (hno : gvI (f 0) p0 x k = false), ∀ ls : Array Slot, lv_has ls 4 [(0, .ref (a 0)), (1, .int (nI p0)), (2, .int x), (3, .int (nI k))] → W p l e rm_X2_givesAway s m args below meth c s.heap [] 0 0 (MQ below (vp_Si (fun r => r = bI (gvI (f 0) p0 x K))) args s 0 0 (fun _ => False)) (F0 m 2 ls []) := by
    intro fuel
    induction fuel with
    | zero => intro k hk hfk hno; exact absurd hfk (by omega)
    | succ fuel ih_2 =>
      intro k hk hfk hno ls hl
      refine lv_iload_n hx hb dX2_givesAway_2 rfl (lv_at hl 3 rfl) ?_
      refine lv_aload_n hx hb dX2_givesAway_3 rfl (lv_at hl 0 rfl) ?_
      refine va_get (D := Γ.1) (ci := 2) (v := .ref (a 3)) (C := RX2) (T := TX2) (N := 2) hx hb hts (by decide +kernel) hown hK hP 0 rfl rfl 1 (by decide) (hts (.fieldLink RX2 20 "RowVeils$Memory" "kept" "LRowVeils$Numbers;") (by decide +kernel)) (fun _ h9 => h9) rfl dX2_givesAway_4 ?_
      refine lv_iload_n hx hb dX2_givesAway_7 rfl (lv_at hl 1 rfl) ?_
      refine cRi (As := [.int (nI p0)]) (rest := [.int (nI k)]) (m_X3_get l Γ (a 3) (a 4) 5 p0 (f 1) (by decide) (by omega)) S k_X3_get gX2_givesAway_X3_get rfl ⟨Nat.le_of_ble_eq_true rfl, Nat.le_of_ble_eq_true rfl⟩ hK hP [3, 4] rfl 0 (ci := 3) rfl rfl rfl rfl hl.1 (Nat.le_of_ble_eq_true rfl) rfl dX2_givesAway_8 ⟨Nat.le_of_ble_eq_true rfl, Nat.le_of_ble_eq_true rfl⟩ (fun r hr => ?_)
      subst hr
      refine asi (z := nI K) (hk0) ?_
      refine lv_icmp_ge (tgt := 37) hx hb dX2_givesAway_11 (by decide) (fun c_11 => ?_) (fun c_11 => ?_)
      · have n_11 := (nI_leI (a := K) (b := k) (by omega) (by omega)).mp c_11
        refine lv_iconst (v := nI 0) hx hb dX2_givesAway_37 (by decide) ?_
        exact W.zret (v := nI 0) hx hb hrt (z0) (fun t9 ht9 hW9 => ⟨_, rfl, bf (by rw [show K = k from by omega]; exact hno), ht9⟩) (fun _ h9 => nomatch h9) dX2_givesAway_38 hlk
      · have n_11 := (not_congr (nI_leI (a := K) (b := k) (by omega) (by omega))).mp c_11
        refine lv_aload_n hx hb dX2_givesAway_14 rfl (lv_at hl 0 rfl) ?_
        refine lv_iload_n hx hb dX2_givesAway_15 rfl (lv_at hl 1 rfl) ?_
        refine lv_iload_n hx hb dX2_givesAway_16 rfl (lv_at hl 3 rfl) ?_
        refine cRi (As := [.int (nI p0), .int (nI k)]) (rest := []) (m_X2_maskAt l Γ a f p0 K hp hK6 hk0 k (by omega)) S k_X2_maskAt gX2_givesAway_X2_maskAt rfl ⟨Nat.le_of_ble_eq_true rfl, Nat.le_of_ble_eq_true rfl⟩ hK hP [0, 1, 2, 3, 4] rfl 0 (ci := 2) rfl rfl rfl rfl hl.1 (Nat.le_of_ble_eq_true rfl) rfl dX2_givesAway_17 ⟨Nat.le_of_ble_eq_true rfl, Nat.le_of_ble_eq_true rfl⟩ (fun r hr => ?_)
        subst hr
        refine asi (z := f 0 (p0 * 6 + k)) (if_pos (by omega)) ?_
        refine lv_iload_n hx hb dX2_givesAway_20 rfl (lv_at hl 2 rfl) ?_
        refine lv_ixor hx hb dX2_givesAway_21 ?_
        refine cSi (As := [.int ((f 0 (p0 * 6 + k)) ^^^ x)]) (rest := []) (m_J6_bitCount_0f7a4 l (f 0 (p0 * 6 + k) ^^^ x)) S k_J6_bitCount_0f7a4 gX2_givesAway_J6_bitCount_0f7a4 ⟨Nat.le_of_ble_eq_true rfl, Nat.le_of_ble_eq_true rfl⟩ rfl hl.1 (Nat.le_of_ble_eq_true rfl) rfl dX2_givesAway_22 ⟨Nat.le_of_ble_eq_true rfl, Nat.le_of_ble_eq_true rfl⟩ (fun r hr => ?_)
        subst hr
        refine lv_iconst (v := nI 1) hx hb dX2_givesAway_25 (by decide) ?_
        refine lv_icmp_ne (tgt := 31) hx hb dX2_givesAway_26 (by decide) (fun c_26 => ?_) (fun c_26 => ?_)
        · have n_26 : decide (bcI (f 0 (p0 * 6 + k) ^^^ x) = nI 1) = false := decide_eq_false c_26
          refine lv_iinc (v := nI (k + 1)) (lv' := [(3, .int (nI (k + 1))), (0, .ref (a 0)), (1, .int (nI p0)), (2, .int x)]) hx hb dX2_givesAway_31 hl (k := 3) rfl (nI_add _ _) (by decide) rfl (fun ls hl => ?_)
          refine lv_goto (tgt := 2) hx hb dX2_givesAway_34 (by decide) ?_
          exact ih_2 (k + 1) (by omega) (by omega) (by show (gvI (f 0) p0 x k || _) = false; rw [hno, n_26]; rfl) ls (lv_sub hl [1, 2, 3, 0] rfl)
        · have n_26 : decide (bcI (f 0 (p0 * 6 + k) ^^^ x) = nI 1) = true := decide_eq_true c_26
          refine lv_iconst (v := nI 1) hx hb dX2_givesAway_29 (by decide) ?_
          exact W.zret (v := nI 1) hx hb hrt (z1) (fun t9 ht9 hW9 => ⟨_, rfl, bt (gvI_mono (k := k + 1) (by omega) (by show (gvI (f 0) p0 x k || _) = true; rw [n_26, Bool.or_true])), ht9⟩) (fun _ h9 => nomatch h9) dX2_givesAway_30 hlk
  refine lv_iconst (v := nI 0) hx hb dX2_givesAway_0 (by decide) ?_
  refine lv_istore_n (lv' := [(3, .int (nI 0)), (0, .ref (a 0)), (1, .int (nI p0)), (2, .int x)]) hx hb dX2_givesAway_1 rfl hl (by decide) rfl (fun ls hl => ?_)
  exact L_2 (K + 1) 0 (by omega) (by omega) rfl ls (lv_sub hl [1, 2, 3, 0] rfl)

abbrev rm_X2_keep : Room := { frames := 2, cells := 0, slots := 0, locals := 45 }
theorem k_X2_keep : Cal yX2_keep wsX2_keep rm_X2_keep cX2_keep 5 none 2 0 0 := ⟨⟨_, rfl⟩, rfl, rfl, by decide +kernel⟩
set_option maxHeartbeats 4000000 in
set_option maxRecDepth 100000 in
theorem m_X2_keep (l : Launch) (Γ : Gm) (sz : Nat) (a : Nat → Nat) (f : Nat → Nat → Int32) (p0 K : Nat) (hp : p0 < 5) (hK6 : K ≤ 6) (hk0 : f 1 p0 = nI K) (x : Int32) : MWv (S := Unit) l yX2_keep wsX2_keep rm_X2_keep Γ sz [(a 0, .inr (2, [.ref (a 1), .ref (a 3)])), (a 1, .inr (3, [.ref (a 2)])), (a 2, .inl (Γ.2.1, 30, .inl (f 0))), (a 3, .inr (3, [.ref (a 4)])), (a 4, .inl (Γ.2.1, 5, .inl (f 1)))] [.ref (a 0), .int (nI p0), .int x] (fun u => True) (fun u => [(a 0, .inr (2, [.ref (a 1), .ref (a 3)])), (a 1, .inr (3, [.ref (a 2)])), (a 2, .inl (Γ.2.1, 30, .inl (kpM (f 0) p0 K x))), (a 3, .inr (3, [.ref (a 4)])), (a 4, .inl (Γ.2.1, 5, .inl (upd (f 1) p0 (nI (kpN K)))))]) 0 0 := by
  refine mW (cc := cX2_keep) (maxL := 5) (ret := none) (own := RX2) (by decide) rfl rfl (Nat.le_of_ble_eq_true rfl) ?_
  intro p e s m args below meth c S hrt hlk hin hsz hK hP hD hA hS ls hl
  subst hsz
  generalize hAe : va_A ([(a 0, .inr (2, [.ref (a 1), .ref (a 3)])), (a 1, .inr (3, [.ref (a 2)])), (a 2, .inl (Γ.2.1, 30, .inl (f 0))), (a 3, .inr (3, [.ref (a 4)])), (a 4, .inl (Γ.2.1, 5, .inl (f 1)))]) s.heap.size = A at hD hA hS ⊢
  obtain ⟨hx, hb, hml, hown, hts⟩ := id S
  have hl : lv_has ls 5 [(0, .ref (a 0)), (1, .int (nI p0)), (2, .int x)] := hl
  have hH : s.heap = s.heap := rfl
  refine lv_iload_n hx hb dX2_keep_0 rfl (lv_at hl 1 rfl) ?_
  refine lv_bipush (v := nI 6) hx hb dX2_keep_1 (by decide) ?_
  refine lv_imul hx hb dX2_keep_3 ?_
  refine asi (z := nI (p0 * 6)) (pk_mul _ _) ?_
  refine lv_istore_n (lv' := [(3, .int (nI (p0 * 6))), (0, .ref (a 0)), (1, .int (nI p0)), (2, .int x)]) hx hb dX2_keep_4 rfl hl (by decide) rfl (fun ls hl => ?_)
  refine lv_aload_n hx hb dX2_keep_5 rfl (lv_at hl 1 rfl) ?_
  refine va_get (D := Γ.1) (ci := 2) (v := .ref (a 3)) (C := RX2) (T := TX2) (N := 2) hx hb hts (by decide +kernel) hown hK hP 0 rfl rfl 1 (by decide) (hts (.fieldLink RX2 20 "RowVeils$Memory" "kept" "LRowVeils$Numbers;") (by decide +kernel)) (fun _ h9 => h9) rfl dX2_keep_6 ?_
  refine lv_iload_n hx hb dX2_keep_9 rfl (lv_at hl 2 rfl) ?_
  refine cRi (As := [.int (nI p0)]) (rest := []) (m_X3_get l Γ (a 3) (a 4) 5 p0 (f 1) (by decide) (by omega)) S k_X3_get gX2_keep_X3_get rfl ⟨Nat.le_of_ble_eq_true rfl, Nat.le_of_ble_eq_true rfl⟩ hK hP [3, 4] rfl 0 (ci := 3) rfl rfl rfl rfl hl.1 (Nat.le_of_ble_eq_true rfl) rfl dX2_keep_10 ⟨Nat.le_of_ble_eq_true rfl, Nat.le_of_ble_eq_true rfl⟩ (fun r hr => ?_)
  subst hr
  refine asi (z := nI K) (hk0) ?_
  refine lv_istore (lv' := [(4, .int (nI K)), (3, .int (nI (p0 * 6))), (0, .ref (a 0)), (1, .int (nI p0)), (2, .int x)]) hx hb dX2_keep_13 hl (by decide) rfl (fun ls hl => ?_)
  refine lv_iload hx hb dX2_keep_15 (lv_at hl 0 rfl) ?_
  refine lv_bipush (v := nI 6) hx hb dX2_keep_17 (by decide) ?_
  refine lv_icmp_lt (tgt := 37) hx hb dX2_keep_19 (by decide) (fun c_19 => ?_) (fun c_19 => ?_)
  · have n_19 := (nI_ltI (a := K) (b := 6) (by omega) (by omega)).mp c_19
    refine lv_aload_n hx hb dX2_keep_37 rfl (lv_at hl 2 rfl) ?_
    refine va_get (D := Γ.1) (ci := 2) (v := .ref (a 1)) (C := RX2) (T := TX2) (N := 2) hx hb hts (by decide +kernel) hown hK hP 0 rfl rfl 0 (by decide) (hts (.fieldLink RX2 14 "RowVeils$Memory" "masks" "LRowVeils$Numbers;") (by decide +kernel)) (fun _ h9 => h9) rfl dX2_keep_38 ?_
    refine lv_iload_n hx hb dX2_keep_41 rfl (lv_at hl 1 rfl) ?_
    refine lv_iload hx hb dX2_keep_42 (lv_at hl 0 rfl) ?_
    refine lv_iadd hx hb dX2_keep_44 ?_
    refine asi (z := nI ((p0 * 6) + K)) (nI_add _ _) ?_
    refine lv_iload_n hx hb dX2_keep_45 rfl (lv_at hl 4 rfl) ?_
    refine cWv (As := [.int (nI ((p0 * 6) + K)), .int x]) (rest := []) (wr := [(a 0, .inr (2, [.ref (a 1), .ref (a 3)])), (a 3, .inr (3, [.ref (a 4)])), (a 4, .inl (Γ.2.1, 5, .inl (f 1)))]) (m_X3_put l Γ _ (a 1) (a 2) 30 (p0 * 6 + K) (f 0) (by decide) (by omega) x) S k_X3_put gX2_keep_X3_put rfl ⟨Nat.le_of_ble_eq_true rfl, Nat.le_of_ble_eq_true rfl⟩ hK hP hD hS hA [1, 2] [0, 3, 4] rfl rfl (by decide) (by decide) (by decide) 0 (ci := 3) rfl rfl rfl rfl hl.1 (Nat.le_of_ble_eq_true rfl) rfl dX2_keep_46 ⟨Nat.le_of_ble_eq_true rfl, Nat.le_of_ble_eq_true rfl⟩ (fun u H locs hr hP hD hS => ?_)
    have hP : gP Γ [(a 0, .inr (2, [.ref (a 1), .ref (a 3)])), (a 3, .inr (3, [.ref (a 4)])), (a 4, .inl (Γ.2.1, 5, .inl (f 1))), (a 1, .inr (3, [.ref (a 2)])), (a 2, .inl (Γ.2.1, 30, .inl (upd (f 0) (p0 * 6 + K) x)))] H := hP
    have hD : va_D A [(a 0, .inr (2, [.ref (a 1), .ref (a 3)])), (a 3, .inr (3, [.ref (a 4)])), (a 4, .inl (Γ.2.1, 5, .inl (f 1))), (a 1, .inr (3, [.ref (a 2)])), (a 2, .inl (Γ.2.1, 30, .inl (upd (f 0) (p0 * 6 + K) x)))] := hD
    refine lv_aload_n hx hb dX2_keep_49 rfl (lv_at hl 2 rfl) ?_
    refine va_get (D := Γ.1) (ci := 2) (v := .ref (a 3)) (C := RX2) (T := TX2) (N := 2) hx hb hts (by decide +kernel) hown hK hP 0 rfl rfl 1 (by decide) (hts (.fieldLink RX2 20 "RowVeils$Memory" "kept" "LRowVeils$Numbers;") (by decide +kernel)) (fun _ h9 => h9) rfl dX2_keep_50 ?_
    refine lv_iload_n hx hb dX2_keep_53 rfl (lv_at hl 3 rfl) ?_
    refine lv_iload hx hb dX2_keep_54 (lv_at hl 0 rfl) ?_
    refine lv_iconst (v := nI 1) hx hb dX2_keep_56 (by decide) ?_
    refine lv_iadd hx hb dX2_keep_57 ?_
    refine asi (z := nI (K + 1)) (nI_add _ _) ?_
    refine cWv (As := [.int (nI p0), .int (nI (K + 1))]) (rest := []) (wr := [(a 0, .inr (2, [.ref (a 1), .ref (a 3)])), (a 1, .inr (3, [.ref (a 2)])), (a 2, .inl (Γ.2.1, 30, .inl (upd (f 0) (p0 * 6 + K) x)))]) (m_X3_put l Γ _ (a 3) (a 4) 5 p0 (f 1) (by decide) (by omega) (nI (K + 1))) S k_X3_put gX2_keep_X3_put rfl ⟨Nat.le_of_ble_eq_true rfl, Nat.le_of_ble_eq_true rfl⟩ hK hP hD hS hA [1, 2] [0, 3, 4] rfl rfl (by decide) (by decide) (by decide) 0 (ci := 3) rfl rfl rfl rfl hl.1 (Nat.le_of_ble_eq_true rfl) rfl dX2_keep_58 ⟨Nat.le_of_ble_eq_true rfl, Nat.le_of_ble_eq_true rfl⟩ (fun u H locs hr hP hD hS => ?_)
    have hP : gP Γ [(a 0, .inr (2, [.ref (a 1), .ref (a 3)])), (a 1, .inr (3, [.ref (a 2)])), (a 2, .inl (Γ.2.1, 30, .inl (upd (f 0) (p0 * 6 + K) x))), (a 3, .inr (3, [.ref (a 4)])), (a 4, .inl (Γ.2.1, 5, .inl (upd (f 1) p0 (nI (K + 1)))))] H := hP
    have hD : va_D A [(a 0, .inr (2, [.ref (a 1), .ref (a 3)])), (a 1, .inr (3, [.ref (a 2)])), (a 2, .inl (Γ.2.1, 30, .inl (upd (f 0) (p0 * 6 + K) x))), (a 3, .inr (3, [.ref (a 4)])), (a 4, .inl (Γ.2.1, 5, .inl (upd (f 1) p0 (nI (K + 1)))))] := hD
    have e1 : upd (f 0) (p0 * 6 + K) x = kpM (f 0) p0 K x := kpM_some (by omega)
    have e2 : upd (f 1) p0 (nI (K + 1)) = upd (f 1) p0 (nI (kpN K)) := by rw [kpN_some (by omega)]
    rw [e1, e2] at hP hD
    exact W.vret hx hb hrt (fun t9 ht9 hW9 => ⟨⟨(), rfl, trivial, wd_end hK hP hD [0, 1, 2, 3, 4] (by decide) rfl t9 ht9 hW9⟩, hS.F ht9⟩) hS.2.2 dX2_keep_61 hlk
  · have n_19 := (not_congr (nI_ltI (a := K) (b := 6) (by omega) (by omega))).mp c_19
    refine lv_aload_n hx hb dX2_keep_22 rfl (lv_at hl 2 rfl) ?_
    refine va_get (D := Γ.1) (ci := 2) (v := .ref (a 1)) (C := RX2) (T := TX2) (N := 2) hx hb hts (by decide +kernel) hown hK hP 0 rfl rfl 0 (by decide) (hts (.fieldLink RX2 14 "RowVeils$Memory" "masks" "LRowVeils$Numbers;") (by decide +kernel)) (fun _ h9 => h9) rfl dX2_keep_23 ?_
    refine lv_iload_n hx hb dX2_keep_26 rfl (lv_at hl 1 rfl) ?_
    refine lv_iload_n hx hb dX2_keep_27 rfl (lv_at hl 1 rfl) ?_
    refine lv_bipush (v := nI 6) hx hb dX2_keep_28 (by decide) ?_
    refine lv_iadd hx hb dX2_keep_30 ?_
    refine asi (z := nI ((p0 * 6) + 6)) (nI_add _ _) ?_
    refine cWv (As := [.int (nI (p0 * 6)), .int (nI ((p0 * 6) + 6))]) (rest := []) (wr := [(a 0, .inr (2, [.ref (a 1), .ref (a 3)])), (a 3, .inr (3, [.ref (a 4)])), (a 4, .inl (Γ.2.1, 5, .inl (f 1)))]) (m_X3_closeGap l Γ _ (a 1) (a 2) 30 (p0 * 6) (p0 * 6 + 6) (f 0) (by decide) (by omega) (by omega) (by omega)) S k_X3_closeGap gX2_keep_X3_closeGap rfl ⟨Nat.le_of_ble_eq_true rfl, Nat.le_of_ble_eq_true rfl⟩ hK hP hD hS hA [1, 2] [0, 3, 4] rfl rfl (by decide) (by decide) (by decide) 0 (ci := 3) rfl rfl rfl rfl hl.1 (Nat.le_of_ble_eq_true rfl) rfl dX2_keep_31 ⟨Nat.le_of_ble_eq_true rfl, Nat.le_of_ble_eq_true rfl⟩ (fun u H locs hr hP hD hS => ?_)
    have hP : gP Γ [(a 0, .inr (2, [.ref (a 1), .ref (a 3)])), (a 3, .inr (3, [.ref (a 4)])), (a 4, .inl (Γ.2.1, 5, .inl (f 1))), (a 1, .inr (3, [.ref (a 2)])), (a 2, .inl (Γ.2.1, 30, .inl (gapk (f 0) (p0 * 6) (p0 * 6 + 6 - 1))))] H := hP
    have hD : va_D A [(a 0, .inr (2, [.ref (a 1), .ref (a 3)])), (a 3, .inr (3, [.ref (a 4)])), (a 4, .inl (Γ.2.1, 5, .inl (f 1))), (a 1, .inr (3, [.ref (a 2)])), (a 2, .inl (Γ.2.1, 30, .inl (gapk (f 0) (p0 * 6) (p0 * 6 + 6 - 1))))] := hD
    refine lv_iconst (v := nI 5) hx hb dX2_keep_34 (by decide) ?_
    refine lv_istore (lv' := [(4, .int (nI 5)), (3, .int (nI (p0 * 6))), (0, .ref (a 0)), (1, .int (nI p0)), (2, .int x)]) hx hb dX2_keep_35 hl (by decide) rfl (fun ls hl => ?_)
    refine lv_aload_n hx hb dX2_keep_37 rfl (lv_at hl 2 rfl) ?_
    refine va_get (D := Γ.1) (ci := 2) (v := .ref (a 1)) (C := RX2) (T := TX2) (N := 2) hx hb hts (by decide +kernel) hown hK hP 0 rfl rfl 0 (by decide) (hts (.fieldLink RX2 14 "RowVeils$Memory" "masks" "LRowVeils$Numbers;") (by decide +kernel)) (fun _ h9 => h9) rfl dX2_keep_38 ?_
    refine lv_iload_n hx hb dX2_keep_41 rfl (lv_at hl 1 rfl) ?_
    refine lv_iload hx hb dX2_keep_42 (lv_at hl 0 rfl) ?_
    refine lv_iadd hx hb dX2_keep_44 ?_
    refine asi (z := nI ((p0 * 6) + 5)) (nI_add _ _) ?_
    refine lv_iload_n hx hb dX2_keep_45 rfl (lv_at hl 4 rfl) ?_
    refine cWv (As := [.int (nI ((p0 * 6) + 5)), .int x]) (rest := []) (wr := [(a 0, .inr (2, [.ref (a 1), .ref (a 3)])), (a 3, .inr (3, [.ref (a 4)])), (a 4, .inl (Γ.2.1, 5, .inl (f 1)))]) (m_X3_put l Γ _ (a 1) (a 2) 30 (p0 * 6 + 5) (gapk (f 0) (p0 * 6) (p0 * 6 + 6 - 1)) (by decide) (by omega) x) S k_X3_put gX2_keep_X3_put rfl ⟨Nat.le_of_ble_eq_true rfl, Nat.le_of_ble_eq_true rfl⟩ hK hP hD hS hA [3, 4] [0, 1, 2] rfl rfl (by decide) (by decide) (by decide) 0 (ci := 3) rfl rfl rfl rfl hl.1 (Nat.le_of_ble_eq_true rfl) rfl dX2_keep_46 ⟨Nat.le_of_ble_eq_true rfl, Nat.le_of_ble_eq_true rfl⟩ (fun u H locs hr hP hD hS => ?_)
    have hP : gP Γ [(a 0, .inr (2, [.ref (a 1), .ref (a 3)])), (a 3, .inr (3, [.ref (a 4)])), (a 4, .inl (Γ.2.1, 5, .inl (f 1))), (a 1, .inr (3, [.ref (a 2)])), (a 2, .inl (Γ.2.1, 30, .inl (upd (gapk (f 0) (p0 * 6) (p0 * 6 + 6 - 1)) (p0 * 6 + 5) x)))] H := hP
    have hD : va_D A [(a 0, .inr (2, [.ref (a 1), .ref (a 3)])), (a 3, .inr (3, [.ref (a 4)])), (a 4, .inl (Γ.2.1, 5, .inl (f 1))), (a 1, .inr (3, [.ref (a 2)])), (a 2, .inl (Γ.2.1, 30, .inl (upd (gapk (f 0) (p0 * 6) (p0 * 6 + 6 - 1)) (p0 * 6 + 5) x)))] := hD
    refine lv_aload_n hx hb dX2_keep_49 rfl (lv_at hl 2 rfl) ?_
    refine va_get (D := Γ.1) (ci := 2) (v := .ref (a 3)) (C := RX2) (T := TX2) (N := 2) hx hb hts (by decide +kernel) hown hK hP 0 rfl rfl 1 (by decide) (hts (.fieldLink RX2 20 "RowVeils$Memory" "kept" "LRowVeils$Numbers;") (by decide +kernel)) (fun _ h9 => h9) rfl dX2_keep_50 ?_
    refine lv_iload_n hx hb dX2_keep_53 rfl (lv_at hl 3 rfl) ?_
    refine lv_iload hx hb dX2_keep_54 (lv_at hl 0 rfl) ?_
    refine lv_iconst (v := nI 1) hx hb dX2_keep_56 (by decide) ?_
    refine lv_iadd hx hb dX2_keep_57 ?_
    refine asi (z := nI 6) (nI_add _ _) ?_
    refine cWv (As := [.int (nI p0), .int (nI 6)]) (rest := []) (wr := [(a 0, .inr (2, [.ref (a 1), .ref (a 3)])), (a 1, .inr (3, [.ref (a 2)])), (a 2, .inl (Γ.2.1, 30, .inl (upd (gapk (f 0) (p0 * 6) (p0 * 6 + 6 - 1)) (p0 * 6 + 5) x)))]) (m_X3_put l Γ _ (a 3) (a 4) 5 p0 (f 1) (by decide) (by omega) (nI 6)) S k_X3_put gX2_keep_X3_put rfl ⟨Nat.le_of_ble_eq_true rfl, Nat.le_of_ble_eq_true rfl⟩ hK hP hD hS hA [1, 2] [0, 3, 4] rfl rfl (by decide) (by decide) (by decide) 0 (ci := 3) rfl rfl rfl rfl hl.1 (Nat.le_of_ble_eq_true rfl) rfl dX2_keep_58 ⟨Nat.le_of_ble_eq_true rfl, Nat.le_of_ble_eq_true rfl⟩ (fun u H locs hr hP hD hS => ?_)
    have hP : gP Γ [(a 0, .inr (2, [.ref (a 1), .ref (a 3)])), (a 1, .inr (3, [.ref (a 2)])), (a 2, .inl (Γ.2.1, 30, .inl (upd (gapk (f 0) (p0 * 6) (p0 * 6 + 6 - 1)) (p0 * 6 + 5) x))), (a 3, .inr (3, [.ref (a 4)])), (a 4, .inl (Γ.2.1, 5, .inl (upd (f 1) p0 (nI 6))))] H := hP
    have hD : va_D A [(a 0, .inr (2, [.ref (a 1), .ref (a 3)])), (a 1, .inr (3, [.ref (a 2)])), (a 2, .inl (Γ.2.1, 30, .inl (upd (gapk (f 0) (p0 * 6) (p0 * 6 + 6 - 1)) (p0 * 6 + 5) x))), (a 3, .inr (3, [.ref (a 4)])), (a 4, .inl (Γ.2.1, 5, .inl (upd (f 1) p0 (nI 6))))] := hD
    have e1 : upd (gapk (f 0) (p0 * 6) (p0 * 6 + 6 - 1)) (p0 * 6 + 5) x = kpM (f 0) p0 K x := kpM_full (by omega)
    have e2 : upd (f 1) p0 (nI 6) = upd (f 1) p0 (nI (kpN K)) := by rw [kpN_full (by omega)]
    rw [e1, e2] at hP hD
    exact W.vret hx hb hrt (fun t9 ht9 hW9 => ⟨⟨(), rfl, trivial, wd_end hK hP hD [0, 1, 2, 3, 4] (by decide) rfl t9 ht9 hW9⟩, hS.F ht9⟩) hS.2.2 dX2_keep_61 hlk

abbrev rm_X2_takeOut : Room := { frames := 1, cells := 0, slots := 0, locals := 22 }
theorem k_X2_takeOut : Cal yX2_takeOut wsX2_takeOut rm_X2_takeOut cX2_takeOut 5 none 1 0 0 := ⟨⟨_, rfl⟩, rfl, rfl, by decide +kernel⟩
set_option maxHeartbeats 4000000 in
set_option maxRecDepth 100000 in
theorem m_X2_takeOut (l : Launch) (Γ : Gm) (sz : Nat) (a : Nat → Nat) (f : Nat → Nat → Int32) (i : Nat) (hi : i < 16) : MWv (S := Unit) l yX2_takeOut wsX2_takeOut rm_X2_takeOut Γ sz [(a 0, .inr (2, [.ref (a 1), .ref (a 3)])), (a 1, .inr (3, [.ref (a 2)])), (a 2, .inl (Γ.2.1, 30, .inl (f 0))), (a 3, .inr (3, [.ref (a 4)])), (a 4, .inl (Γ.2.1, 5, .inl (f 1)))] [.ref (a 0), .int (nI i)] (fun u => True) (fun u => [(a 0, .inr (2, [.ref (a 1), .ref (a 3)])), (a 1, .inr (3, [.ref (a 2)])), (a 2, .inl (Γ.2.1, 30, .inl (tkk (tkb i) (f 0) 30))), (a 3, .inr (3, [.ref (a 4)])), (a 4, .inl (Γ.2.1, 5, .inl (f 1)))]) 0 0 := by
  refine mW (cc := cX2_takeOut) (maxL := 5) (ret := none) (own := RX2) (by decide) rfl rfl (Nat.le_of_ble_eq_true rfl) ?_
  intro p e s m args below meth c S hrt hlk hin hsz hK hP hD hA hS ls hl
  subst hsz
  generalize hAe : va_A ([(a 0, .inr (2, [.ref (a 1), .ref (a 3)])), (a 1, .inr (3, [.ref (a 2)])), (a 2, .inl (Γ.2.1, 30, .inl (f 0))), (a 3, .inr (3, [.ref (a 4)])), (a 4, .inl (Γ.2.1, 5, .inl (f 1)))]) s.heap.size = A at hD hA hS ⊢
  obtain ⟨hx, hb, hml, hown, hts⟩ := id S
  have hg0 : tkk (tkb i) (f 0) 0 = f 0 := tkk_0 _ _
  have hl : lv_has ls 5 [(0, .ref (a 0)), (1, .int (nI i))] := hl
  have L_8 : ∀ (fuel : Nat), ∀ (k : Nat) (hk : k ≤ 30) (hfk : 30 - k < fuel), ∀ (H : Heap) (locs : List Loc), gP Γ [(a 0, .inr (2, [.ref (a 1), .ref (a 3)])), (a 1, .inr (3, [.ref (a 2)])), (a 2, .inl (Γ.2.1, 30, .inl (tkk (tkb i) (f 0) k))), (a 3, .inr (3, [.ref (a 4)])), (a 4, .inl (Γ.2.1, 5, .inl (f 1)))] H → va_D A [(a 0, .inr (2, [.ref (a 1), .ref (a 3)])), (a 1, .inr (3, [.ref (a 2)])), (a 2, .inl (Γ.2.1, 30, .inl (tkk (tkb i) (f 0) k))), (a 3, .inr (3, [.ref (a 4)])), (a 4, .inl (Γ.2.1, 5, .inl (f 1)))] → va_S A s.heap H locs → ∀ ls : Array Slot, lv_has ls 5 [(0, .ref (a 0)), (1, .int (nI i)), (2, .int (tkb i)), (3, .int (nI k))] → W p l e rm_X2_takeOut s m args below meth c H locs 0 0 (MQ below (va_Qv (S := Unit) (fun u => True) (fun u t9 => wd Γ A ([(a 0, .inr (2, [.ref (a 1), .ref (a 3)])), (a 1, .inr (3, [.ref (a 2)])), (a 2, .inl (Γ.2.1, 30, .inl (tkk (tkb i) (f 0) 30))), (a 3, .inr (3, [.ref (a 4)])), (a 4, .inl (Γ.2.1, 5, .inl (f 1)))]) t9) A) args s 0 0 A) (F0 m 8 ls []) := by
    intro fuel
    induction fuel with
    | zero => intro k hk hfk; exact absurd hfk (by omega)
    | succ fuel ih_8 =>
      intro k hk hfk H locs hP hD hS ls hl
      refine lv_iload_n hx hb dX2_takeOut_8 rfl (lv_at hl 3 rfl) ?_
      refine lv_bipush (v := nI 30) hx hb dX2_takeOut_9 (by decide) ?_
      refine lv_icmp_ge (tgt := 51) hx hb dX2_takeOut_11 (by decide) (fun c_11 => ?_) (fun c_11 => ?_)
      · have n_11 := (nI_leI (a := 30) (b := k) (by omega) (by omega)).mp c_11
        rw [show k = 30 from by omega] at hP hD
        exact W.vret hx hb hrt (fun t9 ht9 hW9 => ⟨⟨(), rfl, trivial, wd_end hK hP hD [0, 1, 2, 3, 4] (by decide) rfl t9 ht9 hW9⟩, hS.F ht9⟩) hS.2.2 dX2_takeOut_51 hlk
      · have n_11 := (not_congr (nI_leI (a := 30) (b := k) (by omega) (by omega))).mp c_11
        refine lv_aload_n hx hb dX2_takeOut_14 rfl (lv_at hl 0 rfl) ?_
        refine va_get (D := Γ.1) (ci := 2) (v := .ref (a 1)) (C := RX2) (T := TX2) (N := 2) hx hb hts (by decide +kernel) hown hK hP 0 rfl rfl 0 (by decide) (hts (.fieldLink RX2 14 "RowVeils$Memory" "masks" "LRowVeils$Numbers;") (by decide +kernel)) (fun _ h9 => h9) rfl dX2_takeOut_15 ?_
        refine lv_iload_n hx hb dX2_takeOut_18 rfl (lv_at hl 3 rfl) ?_
        refine cRi (As := [.int (nI k)]) (rest := []) (m_X3_get l Γ (a 1) (a 2) 30 k (tkk (tkb i) (f 0) k) (by decide) (by omega)) S k_X3_get gX2_takeOut_X3_get rfl ⟨Nat.le_of_ble_eq_true rfl, Nat.le_of_ble_eq_true rfl⟩ hK hP [1, 2] rfl 0 (ci := 3) rfl rfl rfl rfl hl.1 (Nat.le_of_ble_eq_true rfl) rfl dX2_takeOut_19 ⟨Nat.le_of_ble_eq_true rfl, Nat.le_of_ble_eq_true rfl⟩ (fun r hr => ?_)
        subst hr
        refine lv_istore (lv' := [(4, .int ((tkk (tkb i) (f 0) k) k)), (0, .ref (a 0)), (1, .int (nI i)), (2, .int (tkb i)), (3, .int (nI k))]) hx hb dX2_takeOut_22 hl (by decide) rfl (fun ls hl => ?_)
        refine lv_aload_n hx hb dX2_takeOut_24 rfl (lv_at hl 1 rfl) ?_
        refine va_get (D := Γ.1) (ci := 2) (v := .ref (a 1)) (C := RX2) (T := TX2) (N := 2) hx hb hts (by decide +kernel) hown hK hP 0 rfl rfl 0 (by decide) (hts (.fieldLink RX2 14 "RowVeils$Memory" "masks" "LRowVeils$Numbers;") (by decide +kernel)) (fun _ h9 => h9) rfl dX2_takeOut_25 ?_
        refine lv_iload_n hx hb dX2_takeOut_28 rfl (lv_at hl 4 rfl) ?_
        refine lv_iload hx hb dX2_takeOut_29 (lv_at hl 0 rfl) ?_
        refine lv_iload_n hx hb dX2_takeOut_31 rfl (lv_at hl 3 rfl) ?_
        refine lv_iand hx hb dX2_takeOut_32 ?_
        refine lv_iload hx hb dX2_takeOut_33 (lv_at hl 0 rfl) ?_
        refine lv_iconst (v := nI 1) hx hb dX2_takeOut_35 (by decide) ?_
        refine lv_ishr hx hb dX2_takeOut_36 ?_
        refine lv_iload_n hx hb dX2_takeOut_37 rfl (lv_at hl 3 rfl) ?_
        refine lv_iconst (v := (-1)) hx hb dX2_takeOut_38 (by decide) ?_
        refine lv_ixor hx hb dX2_takeOut_39 ?_
        refine lv_iand hx hb dX2_takeOut_40 ?_
        refine lv_ior hx hb dX2_takeOut_41 ?_
        refine asi (z := tkI (tkb i) (f 0 k)) (by rw [tkk_at]; rfl) ?_
        refine cWv (As := [.int (nI k), .int (tkI (tkb i) (f 0 k))]) (rest := []) (wr := [(a 0, .inr (2, [.ref (a 1), .ref (a 3)])), (a 3, .inr (3, [.ref (a 4)])), (a 4, .inl (Γ.2.1, 5, .inl (f 1)))]) (m_X3_put l Γ _ (a 1) (a 2) 30 k (tkk (tkb i) (f 0) k) (by decide) (by omega) (tkI (tkb i) (f 0 k))) S k_X3_put gX2_takeOut_X3_put rfl ⟨Nat.le_of_ble_eq_true rfl, Nat.le_of_ble_eq_true rfl⟩ hK hP hD hS hA [1, 2] [0, 3, 4] rfl rfl (by decide) (by decide) (by decide) 0 (ci := 3) rfl rfl rfl rfl hl.1 (Nat.le_of_ble_eq_true rfl) rfl dX2_takeOut_42 ⟨Nat.le_of_ble_eq_true rfl, Nat.le_of_ble_eq_true rfl⟩ (fun u H locs hr hP hD hS => ?_)
        have hP : gP Γ [(a 0, .inr (2, [.ref (a 1), .ref (a 3)])), (a 3, .inr (3, [.ref (a 4)])), (a 4, .inl (Γ.2.1, 5, .inl (f 1))), (a 1, .inr (3, [.ref (a 2)])), (a 2, .inl (Γ.2.1, 30, .inl (upd (tkk (tkb i) (f 0) k) k (tkI (tkb i) (f 0 k)))))] H := hP
        have hD : va_D A [(a 0, .inr (2, [.ref (a 1), .ref (a 3)])), (a 3, .inr (3, [.ref (a 4)])), (a 4, .inl (Γ.2.1, 5, .inl (f 1))), (a 1, .inr (3, [.ref (a 2)])), (a 2, .inl (Γ.2.1, 30, .inl (upd (tkk (tkb i) (f 0) k) k (tkI (tkb i) (f 0 k)))))] := hD
        rw [tkk_s (tkb i) (f 0) k] at hP hD
        have hP : gP Γ [(a 0, .inr (2, [.ref (a 1), .ref (a 3)])), (a 3, .inr (3, [.ref (a 4)])), (a 4, .inl (Γ.2.1, 5, .inl (f 1))), (a 1, .inr (3, [.ref (a 2)])), (a 2, .inl (Γ.2.1, 30, .inl (tkk (tkb i) (f 0) (k + 1))))] H := hP
        have hD : va_D A [(a 0, .inr (2, [.ref (a 1), .ref (a 3)])), (a 3, .inr (3, [.ref (a 4)])), (a 4, .inl (Γ.2.1, 5, .inl (f 1))), (a 1, .inr (3, [.ref (a 2)])), (a 2, .inl (Γ.2.1, 30, .inl (tkk (tkb i) (f 0) (k + 1))))] := hD
        refine lv_iinc (v := nI (k + 1)) (lv' := [(3, .int (nI (k + 1))), (4, .int ((tkk (tkb i) (f 0) k) k)), (0, .ref (a 0)), (1, .int (nI i)), (2, .int (tkb i))]) hx hb dX2_takeOut_45 hl (k := 4) rfl (nI_add _ _) (by decide) rfl (fun ls hl => ?_)
        refine lv_goto (tgt := 8) hx hb dX2_takeOut_48 (by decide) ?_
        have hP : gP Γ [(a 0, .inr (2, [.ref (a 1), .ref (a 3)])), (a 1, .inr (3, [.ref (a 2)])), (a 2, .inl (Γ.2.1, 30, .inl (tkk (tkb i) (f 0) (k + 1)))), (a 3, .inr (3, [.ref (a 4)])), (a 4, .inl (Γ.2.1, 5, .inl (f 1)))] H := hP.sub [0, 3, 4, 1, 2] rfl
        have hD : va_D A [(a 0, .inr (2, [.ref (a 1), .ref (a 3)])), (a 1, .inr (3, [.ref (a 2)])), (a 2, .inl (Γ.2.1, 30, .inl (tkk (tkb i) (f 0) (k + 1)))), (a 3, .inr (3, [.ref (a 4)])), (a 4, .inl (Γ.2.1, 5, .inl (f 1)))] := hD.sub [0, 3, 4, 1, 2] (by decide) rfl
        exact ih_8 (k + 1) (by omega) (by omega) _ _ hP hD hS ls (lv_sub hl [2, 3, 4, 0] rfl)
  have hH : s.heap = s.heap := rfl
  rw [← hg0] at hP hD
  refine lv_iconst (v := nI 1) hx hb dX2_takeOut_0 (by decide) ?_
  refine lv_iload_n hx hb dX2_takeOut_1 rfl (lv_at hl 1 rfl) ?_
  refine lv_ishl hx hb dX2_takeOut_2 ?_
  refine lv_iconst (v := nI 1) hx hb dX2_takeOut_3 (by decide) ?_
  refine lv_isub hx hb dX2_takeOut_4 ?_
  refine asi (z := tkb i) (rfl) ?_
  refine lv_istore_n (lv' := [(2, .int (tkb i)), (0, .ref (a 0)), (1, .int (nI i))]) hx hb dX2_takeOut_5 rfl hl (by decide) rfl (fun ls hl => ?_)
  refine lv_iconst (v := nI 0) hx hb dX2_takeOut_6 (by decide) ?_
  refine lv_istore_n (lv' := [(3, .int (nI 0)), (2, .int (tkb i)), (0, .ref (a 0)), (1, .int (nI i))]) hx hb dX2_takeOut_7 rfl hl (by decide) rfl (fun ls hl => ?_)
  exact L_8 31 0 (by omega) (by omega) _ _ hP hD hS ls (lv_sub hl [2, 3, 1, 0] rfl)

abbrev rm_X7_note : Room := { frames := 1, cells := 0, slots := 0, locals := 22 }
theorem k_X7_note : Cal yX7_note wsX7_note rm_X7_note cX7_note 3 none 2 0 0 := ⟨⟨_, rfl⟩, rfl, rfl, by decide +kernel⟩
set_option maxHeartbeats 4000000 in
set_option maxRecDepth 100000 in
theorem m_X7_note (l : Launch) (Γ : Gm) (sz : Nat) (a : Nat → Nat) (f : Nat → Nat → Int32) (z : Int32) (p0 : Nat) (hp : p0 < 5) (b : Bool) : MWv (S := Unit) l yX7_note wsX7_note rm_X7_note Γ sz [(a 0, .inr (7, [.ref (a 1), .ref (a 3), .int z])), (a 1, .inr (3, [.ref (a 2)])), (a 2, .inl (Γ.2.1, 5, .inl (f 0))), (a 3, .inr (3, [.ref (a 4)])), (a 4, .inl (Γ.2.1, 5, .inl (f 1)))] [.ref (a 0), .int (nI p0), .int (bI b)] (fun u => True) (fun u => [(a 0, .inr (7, [.ref (a 1), .ref (a 3), .int z])), (a 1, .inr (3, [.ref (a 2)])), (a 2, .inl (Γ.2.1, 5, .inl (upd (f 0) p0 (f 0 p0 + nI 1)))), (a 3, .inr (3, [.ref (a 4)])), (a 4, .inl (Γ.2.1, 5, .inl (if b = true then upd (f 1) p0 (f 1 p0 + nI 1) else f 1)))]) 0 0 := by
  refine mW (cc := cX7_note) (maxL := 3) (ret := none) (own := RX7) (by decide) rfl rfl (Nat.le_of_ble_eq_true rfl) ?_
  intro p e s m args below meth c S hrt hlk hin hsz hK hP hD hA hS ls hl
  subst hsz
  generalize hAe : va_A ([(a 0, .inr (7, [.ref (a 1), .ref (a 3), .int z])), (a 1, .inr (3, [.ref (a 2)])), (a 2, .inl (Γ.2.1, 5, .inl (f 0))), (a 3, .inr (3, [.ref (a 4)])), (a 4, .inl (Γ.2.1, 5, .inl (f 1)))]) s.heap.size = A at hD hA hS ⊢
  obtain ⟨hx, hb, hml, hown, hts⟩ := id S
  have hl : lv_has ls 3 [(0, .ref (a 0)), (1, .int (nI p0)), (2, .int (bI b))] := hl
  have hH : s.heap = s.heap := rfl
  refine lv_aload_n hx hb dX7_note_0 rfl (lv_at hl 0 rfl) ?_
  refine va_get (D := Γ.1) (ci := 7) (v := .ref (a 1)) (C := RX7) (T := TX7) (N := 3) hx hb hts (by decide +kernel) hown hK hP 0 rfl rfl 0 (by decide) (hts (.fieldLink RX7 14 "RowVeils$Tallies" "answers" "LRowVeils$Numbers;") (by decide +kernel)) (fun _ h9 => h9) rfl dX7_note_1 ?_
  refine lv_iload_n hx hb dX7_note_4 rfl (lv_at hl 1 rfl) ?_
  refine lv_aload_n hx hb dX7_note_5 rfl (lv_at hl 0 rfl) ?_
  refine va_get (D := Γ.1) (ci := 7) (v := .ref (a 1)) (C := RX7) (T := TX7) (N := 3) hx hb hts (by decide +kernel) hown hK hP 0 rfl rfl 0 (by decide) (hts (.fieldLink RX7 14 "RowVeils$Tallies" "answers" "LRowVeils$Numbers;") (by decide +kernel)) (fun _ h9 => h9) rfl dX7_note_6 ?_
  refine lv_iload_n hx hb dX7_note_9 rfl (lv_at hl 1 rfl) ?_
  refine cRi (As := [.int (nI p0)]) (rest := [.int (nI p0), .ref (a 1)]) (m_X3_get l Γ (a 1) (a 2) 5 p0 (f 0) (by decide) (by omega)) S k_X3_get gX7_note_X3_get rfl ⟨Nat.le_of_ble_eq_true rfl, Nat.le_of_ble_eq_true rfl⟩ hK hP [1, 2] rfl 0 (ci := 3) rfl rfl rfl rfl hl.1 (Nat.le_of_ble_eq_true rfl) rfl dX7_note_10 ⟨Nat.le_of_ble_eq_true rfl, Nat.le_of_ble_eq_true rfl⟩ (fun r hr => ?_)
  subst hr
  refine lv_iconst (v := nI 1) hx hb dX7_note_13 (by decide) ?_
  refine lv_iadd hx hb dX7_note_14 ?_
  refine cWv (As := [.int (nI p0), .int (((f 0) p0) + (nI 1))]) (rest := []) (wr := [(a 0, .inr (7, [.ref (a 1), .ref (a 3), .int z])), (a 3, .inr (3, [.ref (a 4)])), (a 4, .inl (Γ.2.1, 5, .inl (f 1)))]) (m_X3_put l Γ _ (a 1) (a 2) 5 p0 (f 0) (by decide) (by omega) (((f 0) p0) + (nI 1))) S k_X3_put gX7_note_X3_put rfl ⟨Nat.le_of_ble_eq_true rfl, Nat.le_of_ble_eq_true rfl⟩ hK hP hD hS hA [1, 2] [0, 3, 4] rfl rfl (by decide) (by decide) (by decide) 0 (ci := 3) rfl rfl rfl rfl hl.1 (Nat.le_of_ble_eq_true rfl) rfl dX7_note_15 ⟨Nat.le_of_ble_eq_true rfl, Nat.le_of_ble_eq_true rfl⟩ (fun u H locs hr hP hD hS => ?_)
  have hP : gP Γ [(a 0, .inr (7, [.ref (a 1), .ref (a 3), .int z])), (a 3, .inr (3, [.ref (a 4)])), (a 4, .inl (Γ.2.1, 5, .inl (f 1))), (a 1, .inr (3, [.ref (a 2)])), (a 2, .inl (Γ.2.1, 5, .inl (upd (f 0) p0 (((f 0) p0) + (nI 1)))))] H := hP
  have hD : va_D A [(a 0, .inr (7, [.ref (a 1), .ref (a 3), .int z])), (a 3, .inr (3, [.ref (a 4)])), (a 4, .inl (Γ.2.1, 5, .inl (f 1))), (a 1, .inr (3, [.ref (a 2)])), (a 2, .inl (Γ.2.1, 5, .inl (upd (f 0) p0 (((f 0) p0) + (nI 1)))))] := hD
  refine lv_iload_n hx hb dX7_note_18 rfl (lv_at hl 2 rfl) ?_
  refine lv_if_eq (tgt := 40) hx hb dX7_note_19 (by decide) (fun c_19 => ?_) (fun c_19 => ?_)
  · have n_19 := bI_z.mp c_19
    subst n_19
    exact W.vret hx hb hrt (fun t9 ht9 hW9 => ⟨⟨(), rfl, trivial, wd_end hK hP hD [0, 3, 4, 1, 2] (by decide) rfl t9 ht9 hW9⟩, hS.F ht9⟩) hS.2.2 dX7_note_40 hlk
  · have n_19 := bI_nz.mp c_19
    subst n_19
    refine lv_aload_n hx hb dX7_note_22 rfl (lv_at hl 0 rfl) ?_
    refine va_get (D := Γ.1) (ci := 7) (v := .ref (a 3)) (C := RX7) (T := TX7) (N := 3) hx hb hts (by decide +kernel) hown hK hP 0 rfl rfl 1 (by decide) (hts (.fieldLink RX7 20 "RowVeils$Tallies" "refusals" "LRowVeils$Numbers;") (by decide +kernel)) (fun _ h9 => h9) rfl dX7_note_23 ?_
    refine lv_iload_n hx hb dX7_note_26 rfl (lv_at hl 1 rfl) ?_
    refine lv_aload_n hx hb dX7_note_27 rfl (lv_at hl 0 rfl) ?_
    refine va_get (D := Γ.1) (ci := 7) (v := .ref (a 3)) (C := RX7) (T := TX7) (N := 3) hx hb hts (by decide +kernel) hown hK hP 0 rfl rfl 1 (by decide) (hts (.fieldLink RX7 20 "RowVeils$Tallies" "refusals" "LRowVeils$Numbers;") (by decide +kernel)) (fun _ h9 => h9) rfl dX7_note_28 ?_
    refine lv_iload_n hx hb dX7_note_31 rfl (lv_at hl 1 rfl) ?_
    refine cRi (As := [.int (nI p0)]) (rest := [.int (nI p0), .ref (a 3)]) (m_X3_get l Γ (a 3) (a 4) 5 p0 (f 1) (by decide) (by omega)) S k_X3_get gX7_note_X3_get rfl ⟨Nat.le_of_ble_eq_true rfl, Nat.le_of_ble_eq_true rfl⟩ hK hP [1, 2] rfl 0 (ci := 3) rfl rfl rfl rfl hl.1 (Nat.le_of_ble_eq_true rfl) rfl dX7_note_32 ⟨Nat.le_of_ble_eq_true rfl, Nat.le_of_ble_eq_true rfl⟩ (fun r hr => ?_)
    subst hr
    refine lv_iconst (v := nI 1) hx hb dX7_note_35 (by decide) ?_
    refine lv_iadd hx hb dX7_note_36 ?_
    refine cWv (As := [.int (nI p0), .int (((f 1) p0) + (nI 1))]) (rest := []) (wr := [(a 0, .inr (7, [.ref (a 1), .ref (a 3), .int z])), (a 1, .inr (3, [.ref (a 2)])), (a 2, .inl (Γ.2.1, 5, .inl (upd (f 0) p0 (((f 0) p0) + (nI 1)))))]) (m_X3_put l Γ _ (a 3) (a 4) 5 p0 (f 1) (by decide) (by omega) (((f 1) p0) + (nI 1))) S k_X3_put gX7_note_X3_put rfl ⟨Nat.le_of_ble_eq_true rfl, Nat.le_of_ble_eq_true rfl⟩ hK hP hD hS hA [1, 2] [0, 3, 4] rfl rfl (by decide) (by decide) (by decide) 0 (ci := 3) rfl rfl rfl rfl hl.1 (Nat.le_of_ble_eq_true rfl) rfl dX7_note_37 ⟨Nat.le_of_ble_eq_true rfl, Nat.le_of_ble_eq_true rfl⟩ (fun u H locs hr hP hD hS => ?_)
    have hP : gP Γ [(a 0, .inr (7, [.ref (a 1), .ref (a 3), .int z])), (a 1, .inr (3, [.ref (a 2)])), (a 2, .inl (Γ.2.1, 5, .inl (upd (f 0) p0 (((f 0) p0) + (nI 1))))), (a 3, .inr (3, [.ref (a 4)])), (a 4, .inl (Γ.2.1, 5, .inl (upd (f 1) p0 (((f 1) p0) + (nI 1)))))] H := hP
    have hD : va_D A [(a 0, .inr (7, [.ref (a 1), .ref (a 3), .int z])), (a 1, .inr (3, [.ref (a 2)])), (a 2, .inl (Γ.2.1, 5, .inl (upd (f 0) p0 (((f 0) p0) + (nI 1))))), (a 3, .inr (3, [.ref (a 4)])), (a 4, .inl (Γ.2.1, 5, .inl (upd (f 1) p0 (((f 1) p0) + (nI 1)))))] := hD
    exact W.vret hx hb hrt (fun t9 ht9 hW9 => ⟨⟨(), rfl, trivial, wd_end hK hP hD [0, 1, 2, 3, 4] (by decide) rfl t9 ht9 hW9⟩, hS.F ht9⟩) hS.2.2 dX7_note_40 hlk

abbrev rm_X7_copyFrom : Room := { frames := 2, cells := 0, slots := 0, locals := 43 }
theorem k_X7_copyFrom : Cal yX7_copyFrom wsX7_copyFrom rm_X7_copyFrom cX7_copyFrom 2 none 1 0 0 := ⟨⟨_, rfl⟩, rfl, rfl, by decide +kernel⟩
set_option maxHeartbeats 4000000 in
set_option maxRecDepth 100000 in
theorem m_X7_copyFrom (l : Launch) (Γ : Gm) (sz : Nat) (a b : Nat → Nat) (f g : Nat → Nat → Int32) (z z2 : Int32) : MWv (S := Unit) l yX7_copyFrom wsX7_copyFrom rm_X7_copyFrom Γ sz [(a 0, .inr (7, [.ref (a 1), .ref (a 3), .int z])), (a 1, .inr (3, [.ref (a 2)])), (a 2, .inl (Γ.2.1, 5, .inl (f 0))), (a 3, .inr (3, [.ref (a 4)])), (a 4, .inl (Γ.2.1, 5, .inl (f 1))), (b 0, .inr (7, [.ref (b 1), .ref (b 3), .int z2])), (b 1, .inr (3, [.ref (b 2)])), (b 2, .inl (Γ.2.1, 5, .inl (g 0))), (b 3, .inr (3, [.ref (b 4)])), (b 4, .inl (Γ.2.1, 5, .inl (g 1)))] [.ref (a 0), .ref (b 0)] (fun u => True) (fun u => [(a 0, .inr (7, [.ref (a 1), .ref (a 3), .int z2])), (a 1, .inr (3, [.ref (a 2)])), (a 2, .inl (Γ.2.1, 5, .inl (cpk (f 0) (g 0) 5))), (a 3, .inr (3, [.ref (a 4)])), (a 4, .inl (Γ.2.1, 5, .inl (cpk (f 1) (g 1) 5))), (b 0, .inr (7, [.ref (b 1), .ref (b 3), .int z2])), (b 1, .inr (3, [.ref (b 2)])), (b 2, .inl (Γ.2.1, 5, .inl (g 0))), (b 3, .inr (3, [.ref (b 4)])), (b 4, .inl (Γ.2.1, 5, .inl (g 1)))]) 0 0 := by
  refine mW (cc := cX7_copyFrom) (maxL := 2) (ret := none) (own := RX7) (by decide) rfl rfl (Nat.le_of_ble_eq_true rfl) ?_
  intro p e s m args below meth c S hrt hlk hin hsz hK hP hD hA hS ls hl
  subst hsz
  generalize hAe : va_A ([(a 0, .inr (7, [.ref (a 1), .ref (a 3), .int z])), (a 1, .inr (3, [.ref (a 2)])), (a 2, .inl (Γ.2.1, 5, .inl (f 0))), (a 3, .inr (3, [.ref (a 4)])), (a 4, .inl (Γ.2.1, 5, .inl (f 1))), (b 0, .inr (7, [.ref (b 1), .ref (b 3), .int z2])), (b 1, .inr (3, [.ref (b 2)])), (b 2, .inl (Γ.2.1, 5, .inl (g 0))), (b 3, .inr (3, [.ref (b 4)])), (b 4, .inl (Γ.2.1, 5, .inl (g 1)))]) s.heap.size = A at hD hA hS ⊢
  obtain ⟨hx, hb, hml, hown, hts⟩ := id S
  have hl : lv_has ls 2 [(0, .ref (a 0)), (1, .ref (b 0))] := hl
  have hH : s.heap = s.heap := rfl
  refine lv_aload_n hx hb dX7_copyFrom_0 rfl (lv_at hl 0 rfl) ?_
  refine va_get (D := Γ.1) (ci := 7) (v := .ref (a 1)) (C := RX7) (T := TX7) (N := 3) hx hb hts (by decide +kernel) hown hK hP 0 rfl rfl 0 (by decide) (hts (.fieldLink RX7 14 "RowVeils$Tallies" "answers" "LRowVeils$Numbers;") (by decide +kernel)) (fun _ h9 => h9) rfl dX7_copyFrom_1 ?_
  refine lv_aload_n hx hb dX7_copyFrom_4 rfl (lv_at hl 1 rfl) ?_
  refine va_get (D := Γ.1) (ci := 7) (v := .ref (b 1)) (C := RX7) (T := TX7) (N := 3) hx hb hts (by decide +kernel) hown hK hP 5 rfl rfl 0 (by decide) (hts (.fieldLink RX7 14 "RowVeils$Tallies" "answers" "LRowVeils$Numbers;") (by decide +kernel)) (fun _ h9 => h9) rfl dX7_copyFrom_5 ?_
  refine cWv (As := [.ref (b 1)]) (rest := []) (wr := [(a 0, .inr (7, [.ref (a 1), .ref (a 3), .int z])), (a 3, .inr (3, [.ref (a 4)])), (a 4, .inl (Γ.2.1, 5, .inl (f 1))), (b 0, .inr (7, [.ref (b 1), .ref (b 3), .int z2])), (b 3, .inr (3, [.ref (b 4)])), (b 4, .inl (Γ.2.1, 5, .inl (g 1)))]) (m_X3_copyFrom l Γ _ (a 1) (a 2) (b 1) (b 2) 5 (f 0) (g 0) (by decide)) S k_X3_copyFrom gX7_copyFrom_X3_copyFrom rfl ⟨Nat.le_of_ble_eq_true rfl, Nat.le_of_ble_eq_true rfl⟩ hK hP hD hS hA [1, 2, 6, 7] [0, 3, 4, 5, 8, 9] rfl rfl (by decide) (by decide) (by decide) 0 (ci := 3) rfl rfl rfl rfl hl.1 (Nat.le_of_ble_eq_true rfl) rfl dX7_copyFrom_8 ⟨Nat.le_of_ble_eq_true rfl, Nat.le_of_ble_eq_true rfl⟩ (fun u H locs hr hP hD hS => ?_)
  have hP : gP Γ [(a 0, .inr (7, [.ref (a 1), .ref (a 3), .int z])), (a 3, .inr (3, [.ref (a 4)])), (a 4, .inl (Γ.2.1, 5, .inl (f 1))), (b 0, .inr (7, [.ref (b 1), .ref (b 3), .int z2])), (b 3, .inr (3, [.ref (b 4)])), (b 4, .inl (Γ.2.1, 5, .inl (g 1))), (a 1, .inr (3, [.ref (a 2)])), (a 2, .inl (Γ.2.1, 5, .inl (cpk (f 0) (g 0) 5))), (b 1, .inr (3, [.ref (b 2)])), (b 2, .inl (Γ.2.1, 5, .inl (g 0)))] H := hP
  have hD : va_D A [(a 0, .inr (7, [.ref (a 1), .ref (a 3), .int z])), (a 3, .inr (3, [.ref (a 4)])), (a 4, .inl (Γ.2.1, 5, .inl (f 1))), (b 0, .inr (7, [.ref (b 1), .ref (b 3), .int z2])), (b 3, .inr (3, [.ref (b 4)])), (b 4, .inl (Γ.2.1, 5, .inl (g 1))), (a 1, .inr (3, [.ref (a 2)])), (a 2, .inl (Γ.2.1, 5, .inl (cpk (f 0) (g 0) 5))), (b 1, .inr (3, [.ref (b 2)])), (b 2, .inl (Γ.2.1, 5, .inl (g 0)))] := hD
  refine lv_aload_n hx hb dX7_copyFrom_11 rfl (lv_at hl 0 rfl) ?_
  refine va_get (D := Γ.1) (ci := 7) (v := .ref (a 3)) (C := RX7) (T := TX7) (N := 3) hx hb hts (by decide +kernel) hown hK hP 0 rfl rfl 1 (by decide) (hts (.fieldLink RX7 20 "RowVeils$Tallies" "refusals" "LRowVeils$Numbers;") (by decide +kernel)) (fun _ h9 => h9) rfl dX7_copyFrom_12 ?_
  refine lv_aload_n hx hb dX7_copyFrom_15 rfl (lv_at hl 1 rfl) ?_
  refine va_get (D := Γ.1) (ci := 7) (v := .ref (b 3)) (C := RX7) (T := TX7) (N := 3) hx hb hts (by decide +kernel) hown hK hP 3 rfl rfl 1 (by decide) (hts (.fieldLink RX7 20 "RowVeils$Tallies" "refusals" "LRowVeils$Numbers;") (by decide +kernel)) (fun _ h9 => h9) rfl dX7_copyFrom_16 ?_
  refine cWv (As := [.ref (b 3)]) (rest := []) (wr := [(a 0, .inr (7, [.ref (a 1), .ref (a 3), .int z])), (b 0, .inr (7, [.ref (b 1), .ref (b 3), .int z2])), (a 1, .inr (3, [.ref (a 2)])), (a 2, .inl (Γ.2.1, 5, .inl (cpk (f 0) (g 0) 5))), (b 1, .inr (3, [.ref (b 2)])), (b 2, .inl (Γ.2.1, 5, .inl (g 0)))]) (m_X3_copyFrom l Γ _ (a 3) (a 4) (b 3) (b 4) 5 (f 1) (g 1) (by decide)) S k_X3_copyFrom gX7_copyFrom_X3_copyFrom rfl ⟨Nat.le_of_ble_eq_true rfl, Nat.le_of_ble_eq_true rfl⟩ hK hP hD hS hA [1, 2, 4, 5] [0, 3, 6, 7, 8, 9] rfl rfl (by decide) (by decide) (by decide) 0 (ci := 3) rfl rfl rfl rfl hl.1 (Nat.le_of_ble_eq_true rfl) rfl dX7_copyFrom_19 ⟨Nat.le_of_ble_eq_true rfl, Nat.le_of_ble_eq_true rfl⟩ (fun u H locs hr hP hD hS => ?_)
  have hP : gP Γ [(a 0, .inr (7, [.ref (a 1), .ref (a 3), .int z])), (b 0, .inr (7, [.ref (b 1), .ref (b 3), .int z2])), (a 1, .inr (3, [.ref (a 2)])), (a 2, .inl (Γ.2.1, 5, .inl (cpk (f 0) (g 0) 5))), (b 1, .inr (3, [.ref (b 2)])), (b 2, .inl (Γ.2.1, 5, .inl (g 0))), (a 3, .inr (3, [.ref (a 4)])), (a 4, .inl (Γ.2.1, 5, .inl (cpk (f 1) (g 1) 5))), (b 3, .inr (3, [.ref (b 4)])), (b 4, .inl (Γ.2.1, 5, .inl (g 1)))] H := hP
  have hD : va_D A [(a 0, .inr (7, [.ref (a 1), .ref (a 3), .int z])), (b 0, .inr (7, [.ref (b 1), .ref (b 3), .int z2])), (a 1, .inr (3, [.ref (a 2)])), (a 2, .inl (Γ.2.1, 5, .inl (cpk (f 0) (g 0) 5))), (b 1, .inr (3, [.ref (b 2)])), (b 2, .inl (Γ.2.1, 5, .inl (g 0))), (a 3, .inr (3, [.ref (a 4)])), (a 4, .inl (Γ.2.1, 5, .inl (cpk (f 1) (g 1) 5))), (b 3, .inr (3, [.ref (b 4)])), (b 4, .inl (Γ.2.1, 5, .inl (g 1)))] := hD
  refine lv_aload_n hx hb dX7_copyFrom_22 rfl (lv_at hl 0 rfl) ?_
  refine lv_aload_n hx hb dX7_copyFrom_23 rfl (lv_at hl 1 rfl) ?_
  refine va_get (D := Γ.1) (ci := 7) (v := .int z2) (C := RX7) (T := TX7) (N := 3) hx hb hts (by decide +kernel) hown hK hP 1 rfl rfl 2 (by decide) (hts (.fieldLink RX7 23 "RowVeils$Tallies" "givenAway" "I") (by decide +kernel)) (fun _ h9 => h9) rfl dX7_copyFrom_24 ?_
  refine va_put (D := Γ.1) (ci := 7) (v := .int z2) (ty := .int) (C := RX7) (T := TX7) (N := 3) hx hb hts (by decide +kernel) tyX7 tyX7_ok nmX7 hown hK hP hD hS 0 rfl rfl 2 (by decide) (hts (.fieldLink RX7 23 "RowVeils$Tallies" "givenAway" "I") (by decide +kernel)) (fun _ h9 => h9) rfl (by decide +kernel) rfl rfl (Nat.le_of_ble_eq_true rfl) dX7_copyFrom_27 (fun H locs hP hD hS => ?_)
  have hP : gP Γ [(a 0, .inr (7, [.ref (a 1), .ref (a 3), .int z2])), (b 0, .inr (7, [.ref (b 1), .ref (b 3), .int z2])), (a 1, .inr (3, [.ref (a 2)])), (a 2, .inl (Γ.2.1, 5, .inl (cpk (f 0) (g 0) 5))), (b 1, .inr (3, [.ref (b 2)])), (b 2, .inl (Γ.2.1, 5, .inl (g 0))), (a 3, .inr (3, [.ref (a 4)])), (a 4, .inl (Γ.2.1, 5, .inl (cpk (f 1) (g 1) 5))), (b 3, .inr (3, [.ref (b 4)])), (b 4, .inl (Γ.2.1, 5, .inl (g 1)))] H := hP
  have hD : va_D A [(a 0, .inr (7, [.ref (a 1), .ref (a 3), .int z2])), (b 0, .inr (7, [.ref (b 1), .ref (b 3), .int z2])), (a 1, .inr (3, [.ref (a 2)])), (a 2, .inl (Γ.2.1, 5, .inl (cpk (f 0) (g 0) 5))), (b 1, .inr (3, [.ref (b 2)])), (b 2, .inl (Γ.2.1, 5, .inl (g 0))), (a 3, .inr (3, [.ref (a 4)])), (a 4, .inl (Γ.2.1, 5, .inl (cpk (f 1) (g 1) 5))), (b 3, .inr (3, [.ref (b 4)])), (b 4, .inl (Γ.2.1, 5, .inl (g 1)))] := hD
  exact W.vret hx hb hrt (fun t9 ht9 hW9 => ⟨⟨(), rfl, trivial, wd_end hK hP hD [0, 2, 3, 6, 7, 1, 4, 5, 8, 9] (by decide) rfl t9 ht9 hW9⟩, hS.F ht9⟩) hS.2.2 dX7_copyFrom_30 hlk

