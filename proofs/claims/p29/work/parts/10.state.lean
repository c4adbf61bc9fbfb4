abbrev wSt (Γ : Gm) (a : Nat → Nat) (f : Nat → Nat → Int32) (z : Nat → Int32) : va_W := [(a 0, .inr (6, [.ref (a 1), .ref (a 10), .ref (a 17), .ref (a 22), .ref (a 27), .int (z 1)])), (a 1, .inr (5, [.ref (a 2), .ref (a 4), .ref (a 6), .ref (a 8), .int (z 0)])), (a 2, .inr (3, [.ref (a 3)])), (a 3, .inl (Γ.2.1, 16, .inl (f 0))), (a 4, .inr (3, [.ref (a 5)])), (a 5, .inl (Γ.2.1, 16, .inl (f 1))), (a 6, .inr (3, [.ref (a 7)])), (a 7, .inl (Γ.2.1, 16, .inl (f 2))), (a 8, .inr (3, [.ref (a 9)])), (a 9, .inl (Γ.2.1, 16, .inl (f 3))), (a 10, .inr (4, [.ref (a 11), .ref (a 13), .ref (a 15)])), (a 11, .inr (3, [.ref (a 12)])), (a 12, .inl (Γ.2.1, 5, .inl (f 4))), (a 13, .inr (3, [.ref (a 14)])), (a 14, .inl (Γ.2.1, 5, .inl (f 5))), (a 15, .inr (3, [.ref (a 16)])), (a 16, .inl (Γ.2.1, 5, .inl (f 6))), (a 17, .inr (2, [.ref (a 18), .ref (a 20)])), (a 18, .inr (3, [.ref (a 19)])), (a 19, .inl (Γ.2.1, 30, .inl (f 7))), (a 20, .inr (3, [.ref (a 21)])), (a 21, .inl (Γ.2.1, 5, .inl (f 8))), (a 22, .inr (7, [.ref (a 23), .ref (a 25), .int (z 2)])), (a 23, .inr (3, [.ref (a 24)])), (a 24, .inl (Γ.2.1, 5, .inl (f 9))), (a 25, .inr (3, [.ref (a 26)])), (a 26, .inl (Γ.2.1, 5, .inl (f 10))), (a 27, .inr (3, [.ref (a 28)])), (a 28, .inl (Γ.2.1, 3, .inl (f 11)))]
abbrev rm_X6_veilMask : Room := { frames := 1, cells := 0, slots := 0, locals := 21 }
theorem k_X6_veilMask : Cal yX6_veilMask wsX6_veilMask rm_X6_veilMask cX6_veilMask 8 (some .int) 2 0 0 := ⟨⟨_, rfl⟩, rfl, rfl, by decide +kernel⟩
set_option maxHeartbeats 4000000 in
set_option maxRecDepth 100000 in
theorem m_X6_veilMask (l : Launch) (Γ : Gm) (a : Nat → Nat) (f : Nat → Nat → Int32) (z : Nat → Int32) (σ : Nat → Nat) (hR : Rep σ f z) (hI : Inv σ) (p0 q : Nat) (hp : p0 < 5) (hq0 : q < σ 0)  : MRi l yX6_veilMask wsX6_veilMask rm_X6_veilMask Γ (wSt Γ a f z) [.ref (a 0), .int (nI p0), .int (nI q)] (fun r => r = nI (vmk σ p0 q)) := by
  refine mR (cc := cX6_veilMask) (maxL := 8) (ret := (some .int)) (own := RX6) (by decide) rfl rfl (Nat.le_of_ble_eq_true rfl) ?_
  intro p e s m args below meth c S hrt hlk hK hP ls hl
  obtain ⟨hx, hb, hml, hown, hts⟩ := id S
  have hn := hI.n
  have hrow := hI.row hq0
  have hper := hI.person hp
  have hown0 := (hI.person (p := oR σ q 0) (by omega)).2.2
  have hall : ∀ k, k < 5 → oP σ k 2 ≤ 5 := fun k hk => (hI.person hk).2.2
  have hl : lv_has ls 8 [(0, .ref (a 0)), (1, .int (nI p0)), (2, .int (nI q))] := hl
  have hP : gP Γ (wSt Γ a f z) s.heap := hP
  have L_178 : ∀ (x : Int32) (e_x : x = nI (bset (vm σ p0 q) 4)) (hne : ¬ oR σ q 0 = p0), ∀ ls : Array Slot, lv_has ls 8 [(0, .ref (a 0)), (5, .int x)] → W p l e rm_X6_veilMask s m args below meth c s.heap [] 0 0 (MQ below (vp_Si (fun r => r = nI (vmk σ p0 q))) args s 0 0 (fun _ => False)) (F0 m 178 ls []) := by
    intro x e_x hne ls hl
    subst e_x
    refine lv_iload hx hb dX6_veilMask_178 (lv_at hl 1 rfl) ?_
    refine lv_aload_n hx hb dX6_veilMask_180 rfl (lv_at hl 0 rfl) ?_
    refine va_get (D := Γ.1) (ci := 6) (v := .int (z 1)) (C := RX6) (T := TX6) (N := 6) hx hb hts (by decide +kernel) hown hK hP 0 rfl rfl 5 (by decide) (hts (.fieldLink RX6 48 "RowVeils$State" "rules" "I") (by decide +kernel)) (fun _ h9 => h9) rfl dX6_veilMask_181 ?_
    refine asi (z := nI (σ 1)) (hR.rules) ?_
    refine lv_iand hx hb dX6_veilMask_184 ?_
    refine asi (z := nI (bset (vm σ p0 q) 4 &&& σ 1)) (nI_and _ _) ?_
    exact W.iret (v := nI (bset (vm σ p0 q) 4 &&& σ 1)) hx hb hrt (fun t9 ht9 hW9 => ⟨_, rfl, by rw [vmk_ne hne], ht9⟩) (fun _ h9 => nomatch h9) dX6_veilMask_185 hlk
  have L_151 : ∀ (y : Int32) (e_y : y = mmI σ (oR σ q 0)) (hne : ¬ oR σ q 0 = p0), ∀ ls : Array Slot, lv_has ls 8 [(0, .ref (a 0)), (1, .int (nI p0)), (2, .int (nI q)), (3, .int (nI (oR σ q 0))), (4, .int (nI (oR σ q 3))), (5, .int (nI (bset (vm σ p0 q) 3))), (6, .int (mI (oP σ (oR σ q 0) 2)))] → W p l e rm_X6_veilMask s m args below meth c s.heap [] 0 0 (MQ below (vp_Si (fun r => r = nI (vmk σ p0 q))) args s 0 0 (fun _ => False)) (F0 m 151 ls [.int y]) := by
    intro y e_y hne ls hl
    subst e_y
    refine lv_istore (lv' := [(7, .int (mmI σ (oR σ q 0))), (0, .ref (a 0)), (1, .int (nI p0)), (2, .int (nI q)), (3, .int (nI (oR σ q 0))), (4, .int (nI (oR σ q 3))), (5, .int (nI (bset (vm σ p0 q) 3))), (6, .int (mI (oP σ (oR σ q 0) 2)))]) hx hb dX6_veilMask_151 hl (by decide) rfl (fun ls hl => ?_)
    refine lv_iload hx hb dX6_veilMask_153 (lv_at hl 5 rfl) ?_
    refine lv_iconst (v := nI 3) hx hb dX6_veilMask_155 (by decide) ?_
    refine lv_icmp_ne (tgt := 178) hx hb dX6_veilMask_156 (by decide) (fun c_156 => ?_) (fun c_156 => ?_)
    · have n_156 := (not_congr (nI_eq (a := (oR σ q 3)) (b := 3) (by omega) (by omega))).mp c_156
      exact L_178 (nI (bset (vm σ p0 q) 3)) (by first | exact bo_t (k := 3) (vm3_iff.mpr ⟨by omega, Or.inl (by omega)⟩) | exact bo_t (k := 3) (vm3_iff.mpr ⟨by omega, Or.inr (by omega)⟩) | exact bo_f (k := 3) (Bool.eq_false_iff.mpr (fun h => by have := vm3_iff.mp h; omega))) (by first | exact n_14 | exact hne) ls (lv_sub hl [1, 6] rfl)
    · have n_156 := (nI_eq (a := (oR σ q 3)) (b := 3) (by omega) (by omega)).mp c_156
      refine lv_iload_n hx hb dX6_veilMask_159 rfl (lv_at hl 2 rfl) ?_
      refine lv_iload hx hb dX6_veilMask_160 (lv_at hl 7 rfl) ?_
      refine lv_icmp_eq (tgt := 171) hx hb dX6_veilMask_162 (by decide) (fun c_162 => ?_) (fun c_162 => ?_)
      · have n_162 := (mI_eq hown0 hp).mp c_162
        refine lv_iload hx hb dX6_veilMask_171 (lv_at hl 6 rfl) ?_
        refine lv_bipush (v := nI 8) hx hb dX6_veilMask_173 (by decide) ?_
        refine lv_ior hx hb dX6_veilMask_175 ?_
        refine lv_istore (lv' := [(5, .int ((nI (bset (vm σ p0 q) 3)) ||| (nI 8))), (7, .int (mmI σ (oR σ q 0))), (0, .ref (a 0)), (1, .int (nI p0)), (2, .int (nI q)), (3, .int (nI (oR σ q 0))), (4, .int (nI (oR σ q 3))), (6, .int (mI (oP σ (oR σ q 0) 2)))]) hx hb dX6_veilMask_176 hl (by decide) rfl (fun ls hl => ?_)
        exact L_178 ((nI (bset (vm σ p0 q) 3)) ||| (nI 8)) (by first | exact bo_t (k := 3) (vm3_iff.mpr ⟨by omega, Or.inl (by omega)⟩) | exact bo_t (k := 3) (vm3_iff.mpr ⟨by omega, Or.inr (by omega)⟩) | exact bo_f (k := 3) (Bool.eq_false_iff.mpr (fun h => by have := vm3_iff.mp h; omega))) (by first | exact n_14 | exact hne) ls (lv_sub hl [2, 0] rfl)
      · have n_162 := (not_congr (mI_eq hown0 hp)).mp c_162
        refine lv_iload_n hx hb dX6_veilMask_165 rfl (lv_at hl 2 rfl) ?_
        refine lv_iload hx hb dX6_veilMask_166 (lv_at hl 0 rfl) ?_
        refine lv_icmp_ne (tgt := 178) hx hb dX6_veilMask_168 (by decide) (fun c_168 => ?_) (fun c_168 => ?_)
        · have n_168 := (not_congr (mm_eq hp hown0 hall)).mp c_168
          exact L_178 (nI (bset (vm σ p0 q) 3)) (by first | exact bo_t (k := 3) (vm3_iff.mpr ⟨by omega, Or.inl (by omega)⟩) | exact bo_t (k := 3) (vm3_iff.mpr ⟨by omega, Or.inr (by omega)⟩) | exact bo_f (k := 3) (Bool.eq_false_iff.mpr (fun h => by have := vm3_iff.mp h; omega))) (by first | exact n_14 | exact hne) ls (lv_sub hl [1, 6] rfl)
        · have n_168 := (mm_eq hp hown0 hall).mp c_168
          refine lv_iload hx hb dX6_veilMask_171 (lv_at hl 6 rfl) ?_
          refine lv_bipush (v := nI 8) hx hb dX6_veilMask_173 (by decide) ?_
          refine lv_ior hx hb dX6_veilMask_175 ?_
          refine lv_istore (lv' := [(5, .int ((nI (bset (vm σ p0 q) 3)) ||| (nI 8))), (7, .int (mmI σ (oR σ q 0))), (0, .ref (a 0)), (1, .int (nI p0)), (2, .int (nI q)), (3, .int (nI (oR σ q 0))), (4, .int (nI (oR σ q 3))), (6, .int (mI (oP σ (oR σ q 0) 2)))]) hx hb dX6_veilMask_176 hl (by decide) rfl (fun ls hl => ?_)
          exact L_178 ((nI (bset (vm σ p0 q) 3)) ||| (nI 8)) (by first | exact bo_t (k := 3) (vm3_iff.mpr ⟨by omega, Or.inl (by omega)⟩) | exact bo_t (k := 3) (vm3_iff.mpr ⟨by omega, Or.inr (by omega)⟩) | exact bo_f (k := 3) (Bool.eq_false_iff.mpr (fun h => by have := vm3_iff.mp h; omega))) (by first | exact n_14 | exact hne) ls (lv_sub hl [2, 0] rfl)
  have L_116 : ∀ (x : Int32) (e_x : x = nI (bset (vm σ p0 q) 3)) (hne : ¬ oR σ q 0 = p0), ∀ ls : Array Slot, lv_has ls 8 [(0, .ref (a 0)), (1, .int (nI p0)), (2, .int (nI q)), (3, .int (nI (oR σ q 0))), (4, .int (nI (oR σ q 3))), (5, .int x)] → W p l e rm_X6_veilMask s m args below meth c s.heap [] 0 0 (MQ below (vp_Si (fun r => r = nI (vmk σ p0 q))) args s 0 0 (fun _ => False)) (F0 m 116 ls []) := by
    intro x e_x hne ls hl
    subst e_x
    refine lv_aload_n hx hb dX6_veilMask_116 rfl (lv_at hl 0 rfl) ?_
    refine va_get (D := Γ.1) (ci := 6) (v := .ref (a 10)) (C := RX6) (T := TX6) (N := 6) hx hb hts (by decide +kernel) hown hK hP 0 rfl rfl 1 (by decide) (hts (.fieldLink RX6 21 "RowVeils$State" "people" "LRowVeils$People;") (by decide +kernel)) (fun _ h9 => h9) rfl dX6_veilMask_117 ?_
    refine va_get (D := Γ.1) (ci := 4) (v := .ref (a 15)) (C := RX4) (T := TX4) (N := 3) hx hb hts (by decide +kernel) hown hK hP 10 rfl rfl 2 (by decide) (hts (.fieldLink RX6 93 "RowVeils$People" "masters" "LRowVeils$Numbers;") (by decide +kernel)) (fun _ h9 => h9) rfl dX6_veilMask_120 ?_
    refine lv_iload_n hx hb dX6_veilMask_123 rfl (lv_at hl 3 rfl) ?_
    refine cRi (As := [.int (nI (oR σ q 0))]) (rest := []) (m_X3_get l Γ (a 15) (a 16) 5 (oR σ q 0) (f 6) (by decide) (by omega)) S k_X3_get gX6_veilMask_X3_get rfl ⟨Nat.le_of_ble_eq_true rfl, Nat.le_of_ble_eq_true rfl⟩ hK hP [15, 16] rfl 0 (ci := 3) rfl rfl rfl rfl hl.1 (Nat.le_of_ble_eq_true rfl) rfl dX6_veilMask_124 ⟨Nat.le_of_ble_eq_true rfl, Nat.le_of_ble_eq_true rfl⟩ (fun r hr => ?_)
    subst hr
    refine asi (z := mI (oP σ (oR σ q 0) 2)) (hR.master (by omega)) ?_
    refine lv_istore (lv' := [(6, .int (mI (oP σ (oR σ q 0) 2))), (0, .ref (a 0)), (1, .int (nI p0)), (2, .int (nI q)), (3, .int (nI (oR σ q 0))), (4, .int (nI (oR σ q 3))), (5, .int (nI (bset (vm σ p0 q) 3)))]) hx hb dX6_veilMask_127 hl (by decide) rfl (fun ls hl => ?_)
    refine lv_iload hx hb dX6_veilMask_129 (lv_at hl 0 rfl) ?_
    refine lv_iconst (v := (-1)) hx hb dX6_veilMask_131 (by decide) ?_
    refine lv_icmp_ne (tgt := 139) hx hb dX6_veilMask_132 (by decide) (fun c_132 => ?_) (fun c_132 => ?_)
    · have n_132 : ¬ oP σ (oR σ q 0) 2 = 0 := fun h => c_132 ((mI_none hown0).mpr h)
      refine lv_aload_n hx hb dX6_veilMask_139 rfl (lv_at hl 1 rfl) ?_
      refine va_get (D := Γ.1) (ci := 6) (v := .ref (a 10)) (C := RX6) (T := TX6) (N := 6) hx hb hts (by decide +kernel) hown hK hP 0 rfl rfl 1 (by decide) (hts (.fieldLink RX6 21 "RowVeils$State" "people" "LRowVeils$People;") (by decide +kernel)) (fun _ h9 => h9) rfl dX6_veilMask_140 ?_
      refine va_get (D := Γ.1) (ci := 4) (v := .ref (a 15)) (C := RX4) (T := TX4) (N := 3) hx hb hts (by decide +kernel) hown hK hP 10 rfl rfl 2 (by decide) (hts (.fieldLink RX6 93 "RowVeils$People" "masters" "LRowVeils$Numbers;") (by decide +kernel)) (fun _ h9 => h9) rfl dX6_veilMask_143 ?_
      refine lv_iload hx hb dX6_veilMask_146 (lv_at hl 0 rfl) ?_
      refine asi (z := nI (oP σ (oR σ q 0) 2 - 1)) (mI_pos n_132) ?_
      refine cRi (As := [.int (nI (oP σ (oR σ q 0) 2 - 1))]) (rest := []) (m_X3_get l Γ (a 15) (a 16) 5 (oP σ (oR σ q 0) 2 - 1) (f 6) (by decide) (by omega)) S k_X3_get gX6_veilMask_X3_get rfl ⟨Nat.le_of_ble_eq_true rfl, Nat.le_of_ble_eq_true rfl⟩ hK hP [15, 16] rfl 0 (ci := 3) rfl rfl rfl rfl hl.1 (Nat.le_of_ble_eq_true rfl) rfl dX6_veilMask_148 ⟨Nat.le_of_ble_eq_true rfl, Nat.le_of_ble_eq_true rfl⟩ (fun r hr => ?_)
      subst hr
      refine asi (z := mI (oP σ (oP σ (oR σ q 0) 2 - 1) 2)) (hR.master (by omega)) ?_
      exact L_151 (mI (oP σ (oP σ (oR σ q 0) 2 - 1) 2)) (by first | exact (if_pos n_132).symm | exact (if_neg n_132).symm) (by first | exact n_14 | exact hne) ls (lv_sub hl [1, 2, 3, 4, 5, 6, 0] rfl)
    · have n_132 := (mI_none hown0).mp c_132
      refine lv_iconst (v := (-1)) hx hb dX6_veilMask_135 (by decide) ?_
      refine lv_goto (tgt := 151) hx hb dX6_veilMask_136 (by decide) ?_
      exact L_151 (-1) (by first | exact (if_pos n_132).symm | exact (if_neg n_132).symm) (by first | exact n_14 | exact hne) ls (lv_sub hl [1, 2, 3, 4, 5, 6, 0] rfl)
  have L_94 : ∀ (x : Int32) (e_x : x = nI (bset (vm σ p0 q) 2)) (hne : ¬ oR σ q 0 = p0), ∀ ls : Array Slot, lv_has ls 8 [(0, .ref (a 0)), (1, .int (nI p0)), (2, .int (nI q)), (3, .int (nI (oR σ q 0))), (4, .int (nI (oR σ q 3))), (5, .int x)] → W p l e rm_X6_veilMask s m args below meth c s.heap [] 0 0 (MQ below (vp_Si (fun r => r = nI (vmk σ p0 q))) args s 0 0 (fun _ => False)) (F0 m 94 ls []) := by
    intro x e_x hne ls hl
    subst e_x
    refine lv_aload_n hx hb dX6_veilMask_94 rfl (lv_at hl 0 rfl) ?_
    refine va_get (D := Γ.1) (ci := 6) (v := .ref (a 1)) (C := RX6) (T := TX6) (N := 6) hx hb hts (by decide +kernel) hown hK hP 0 rfl rfl 0 (by decide) (hts (.fieldLink RX6 12 "RowVeils$State" "rows" "LRowVeils$Rows;") (by decide +kernel)) (fun _ h9 => h9) rfl dX6_veilMask_95 ?_
    refine va_get (D := Γ.1) (ci := 5) (v := .ref (a 6)) (C := RX5) (T := TX5) (N := 5) hx hb hts (by decide +kernel) hown hK hP 1 rfl rfl 2 (by decide) (hts (.fieldLink RX6 90 "RowVeils$Rows" "values" "LRowVeils$Numbers;") (by decide +kernel)) (fun _ h9 => h9) rfl dX6_veilMask_98 ?_
    refine lv_iload_n hx hb dX6_veilMask_101 rfl (lv_at hl 2 rfl) ?_
    refine cRi (As := [.int (nI q)]) (rest := []) (m_X3_get l Γ (a 6) (a 7) 16 q (f 2) (by decide) (by omega)) S k_X3_get gX6_veilMask_X3_get rfl ⟨Nat.le_of_ble_eq_true rfl, Nat.le_of_ble_eq_true rfl⟩ hK hP [6, 7] rfl 0 (ci := 3) rfl rfl rfl rfl hl.1 (Nat.le_of_ble_eq_true rfl) rfl dX6_veilMask_102 ⟨Nat.le_of_ble_eq_true rfl, Nat.le_of_ble_eq_true rfl⟩ (fun r hr => ?_)
    subst hr
    refine asi (z := nI (oR σ q 2)) (hR.val (by omega)) ?_
    refine lv_bipush (v := nI 90) hx hb dX6_veilMask_105 (by decide) ?_
    refine lv_icmp_lt (tgt := 116) hx hb dX6_veilMask_107 (by decide) (fun c_107 => ?_) (fun c_107 => ?_)
    · have n_107 := (nI_ltI (a := (oR σ q 2)) (b := 90) (by omega) (by omega)).mp c_107
      exact L_116 (nI (bset (vm σ p0 q) 2)) (by first | exact bo_t (k := 2) (vm2_iff.mpr (by omega)) | exact bo_f (k := 2) (Bool.eq_false_iff.mpr (fun h => by have := vm2_iff.mp h; omega))) (by first | exact n_14 | exact hne) ls (lv_sub hl [0, 1, 2, 3, 4, 5] rfl)
    · have n_107 := (not_congr (nI_ltI (a := (oR σ q 2)) (b := 90) (by omega) (by omega))).mp c_107
      refine lv_iload hx hb dX6_veilMask_110 (lv_at hl 5 rfl) ?_
      refine lv_iconst (v := nI 4) hx hb dX6_veilMask_112 (by decide) ?_
      refine lv_ior hx hb dX6_veilMask_113 ?_
      refine lv_istore (lv' := [(5, .int ((nI (bset (vm σ p0 q) 2)) ||| (nI 4))), (0, .ref (a 0)), (1, .int (nI p0)), (2, .int (nI q)), (3, .int (nI (oR σ q 0))), (4, .int (nI (oR σ q 3)))]) hx hb dX6_veilMask_114 hl (by decide) rfl (fun ls hl => ?_)
      exact L_116 ((nI (bset (vm σ p0 q) 2)) ||| (nI 4)) (by first | exact bo_t (k := 2) (vm2_iff.mpr (by omega)) | exact bo_f (k := 2) (Bool.eq_false_iff.mpr (fun h => by have := vm2_iff.mp h; omega))) (by first | exact n_14 | exact hne) ls (lv_sub hl [1, 2, 3, 4, 5, 0] rfl)
  have L_57 : ∀ (x : Int32) (e_x : x = nI (bset (vm σ p0 q) 1)) (hne : ¬ oR σ q 0 = p0), ∀ ls : Array Slot, lv_has ls 8 [(0, .ref (a 0)), (1, .int (nI p0)), (2, .int (nI q)), (3, .int (nI (oR σ q 0))), (4, .int (nI (oR σ q 3))), (5, .int x)] → W p l e rm_X6_veilMask s m args below meth c s.heap [] 0 0 (MQ below (vp_Si (fun r => r = nI (vmk σ p0 q))) args s 0 0 (fun _ => False)) (F0 m 57 ls []) := by
    intro x e_x hne ls hl
    subst e_x
    refine lv_iload hx hb dX6_veilMask_57 (lv_at hl 4 rfl) ?_
    refine lv_iconst (v := nI 2) hx hb dX6_veilMask_59 (by decide) ?_
    refine lv_icmp_lt (tgt := 94) hx hb dX6_veilMask_60 (by decide) (fun c_60 => ?_) (fun c_60 => ?_)
    · have n_60 := (nI_ltI (a := (oR σ q 3)) (b := 2) (by omega) (by omega)).mp c_60
      exact L_94 (nI (bset (vm σ p0 q) 1)) (by first | exact bo_t (k := 1) (vm1_iff.mpr (by omega)) | exact bo_f (k := 1) (Bool.eq_false_iff.mpr (fun h => by have := vm1_iff.mp h; omega))) (by first | exact n_14 | exact hne) ls (lv_sub hl [0, 1, 2, 3, 4, 5] rfl)
    · have n_60 := (not_congr (nI_ltI (a := (oR σ q 3)) (b := 2) (by omega) (by omega))).mp c_60
      refine lv_aload_n hx hb dX6_veilMask_63 rfl (lv_at hl 0 rfl) ?_
      refine va_get (D := Γ.1) (ci := 6) (v := .ref (a 1)) (C := RX6) (T := TX6) (N := 6) hx hb hts (by decide +kernel) hown hK hP 0 rfl rfl 0 (by decide) (hts (.fieldLink RX6 12 "RowVeils$State" "rows" "LRowVeils$Rows;") (by decide +kernel)) (fun _ h9 => h9) rfl dX6_veilMask_64 ?_
      refine va_get (D := Γ.1) (ci := 5) (v := .ref (a 4)) (C := RX5) (T := TX5) (N := 5) hx hb hts (by decide +kernel) hown hK hP 1 rfl rfl 1 (by decide) (hts (.fieldLink RX6 84 "RowVeils$Rows" "places" "LRowVeils$Numbers;") (by decide +kernel)) (fun _ h9 => h9) rfl dX6_veilMask_67 ?_
      refine lv_iload_n hx hb dX6_veilMask_70 rfl (lv_at hl 2 rfl) ?_
      refine cRi (As := [.int (nI q)]) (rest := []) (m_X3_get l Γ (a 4) (a 5) 16 q (f 1) (by decide) (by omega)) S k_X3_get gX6_veilMask_X3_get rfl ⟨Nat.le_of_ble_eq_true rfl, Nat.le_of_ble_eq_true rfl⟩ hK hP [4, 5] rfl 0 (ci := 3) rfl rfl rfl rfl hl.1 (Nat.le_of_ble_eq_true rfl) rfl dX6_veilMask_71 ⟨Nat.le_of_ble_eq_true rfl, Nat.le_of_ble_eq_true rfl⟩ (fun r hr => ?_)
      subst hr
      refine asi (z := nI (oR σ q 1)) (hR.pla (by omega)) ?_
      refine lv_aload_n hx hb dX6_veilMask_74 rfl (lv_at hl 0 rfl) ?_
      refine va_get (D := Γ.1) (ci := 6) (v := .ref (a 10)) (C := RX6) (T := TX6) (N := 6) hx hb hts (by decide +kernel) hown hK hP 0 rfl rfl 1 (by decide) (hts (.fieldLink RX6 21 "RowVeils$State" "people" "LRowVeils$People;") (by decide +kernel)) (fun _ h9 => h9) rfl dX6_veilMask_75 ?_
      refine va_get (D := Γ.1) (ci := 4) (v := .ref (a 13)) (C := RX4) (T := TX4) (N := 3) hx hb hts (by decide +kernel) hown hK hP 10 rfl rfl 1 (by decide) (hts (.fieldLink RX6 87 "RowVeils$People" "homes" "LRowVeils$Numbers;") (by decide +kernel)) (fun _ h9 => h9) rfl dX6_veilMask_78 ?_
      refine lv_iload_n hx hb dX6_veilMask_81 rfl (lv_at hl 1 rfl) ?_
      refine cRi (As := [.int (nI p0)]) (rest := [.int (nI (oR σ q 1))]) (m_X3_get l Γ (a 13) (a 14) 5 p0 (f 5) (by decide) (by omega)) S k_X3_get gX6_veilMask_X3_get rfl ⟨Nat.le_of_ble_eq_true rfl, Nat.le_of_ble_eq_true rfl⟩ hK hP [13, 14] rfl 0 (ci := 3) rfl rfl rfl rfl hl.1 (Nat.le_of_ble_eq_true rfl) rfl dX6_veilMask_82 ⟨Nat.le_of_ble_eq_true rfl, Nat.le_of_ble_eq_true rfl⟩ (fun r hr => ?_)
      subst hr
      refine asi (z := nI (oP σ p0 1)) (hR.home (by omega)) ?_
      refine lv_icmp_eq (tgt := 94) hx hb dX6_veilMask_85 (by decide) (fun c_85 => ?_) (fun c_85 => ?_)
      · have n_85 := (nI_eq (a := (oR σ q 1)) (b := (oP σ p0 1)) (by omega) (by omega)).mp c_85
        exact L_94 (nI (bset (vm σ p0 q) 1)) (by first | exact bo_t (k := 1) (vm1_iff.mpr (by omega)) | exact bo_f (k := 1) (Bool.eq_false_iff.mpr (fun h => by have := vm1_iff.mp h; omega))) (by first | exact n_14 | exact hne) ls (lv_sub hl [0, 1, 2, 3, 4, 5] rfl)
      · have n_85 := (not_congr (nI_eq (a := (oR σ q 1)) (b := (oP σ p0 1)) (by omega) (by omega))).mp c_85
        refine lv_iload hx hb dX6_veilMask_88 (lv_at hl 5 rfl) ?_
        refine lv_iconst (v := nI 2) hx hb dX6_veilMask_90 (by decide) ?_
        refine lv_ior hx hb dX6_veilMask_91 ?_
        refine lv_istore (lv' := [(5, .int ((nI (bset (vm σ p0 q) 1)) ||| (nI 2))), (0, .ref (a 0)), (1, .int (nI p0)), (2, .int (nI q)), (3, .int (nI (oR σ q 0))), (4, .int (nI (oR σ q 3)))]) hx hb dX6_veilMask_92 hl (by decide) rfl (fun ls hl => ?_)
        exact L_94 ((nI (bset (vm σ p0 q) 1)) ||| (nI 2)) (by first | exact bo_t (k := 1) (vm1_iff.mpr (by omega)) | exact bo_f (k := 1) (Bool.eq_false_iff.mpr (fun h => by have := vm1_iff.mp h; omega))) (by first | exact n_14 | exact hne) ls (lv_sub hl [1, 2, 3, 4, 5, 0] rfl)
  refine lv_aload_n hx hb dX6_veilMask_0 rfl (lv_at hl 0 rfl) ?_
  refine va_get (D := Γ.1) (ci := 6) (v := .ref (a 1)) (C := RX6) (T := TX6) (N := 6) hx hb hts (by decide +kernel) hown hK hP 0 rfl rfl 0 (by decide) (hts (.fieldLink RX6 12 "RowVeils$State" "rows" "LRowVeils$Rows;") (by decide +kernel)) (fun _ h9 => h9) rfl dX6_veilMask_1 ?_
  refine va_get (D := Γ.1) (ci := 5) (v := .ref (a 2)) (C := RX5) (T := TX5) (N := 5) hx hb hts (by decide +kernel) hown hK hP 1 rfl rfl 0 (by decide) (hts (.fieldLink RX6 71 "RowVeils$Rows" "owners" "LRowVeils$Numbers;") (by decide +kernel)) (fun _ h9 => h9) rfl dX6_veilMask_4 ?_
  refine lv_iload_n hx hb dX6_veilMask_7 rfl (lv_at hl 2 rfl) ?_
  refine cRi (As := [.int (nI q)]) (rest := []) (m_X3_get l Γ (a 2) (a 3) 16 q (f 0) (by decide) (by omega)) S k_X3_get gX6_veilMask_X3_get rfl ⟨Nat.le_of_ble_eq_true rfl, Nat.le_of_ble_eq_true rfl⟩ hK hP [2, 3] rfl 0 (ci := 3) rfl rfl rfl rfl hl.1 (Nat.le_of_ble_eq_true rfl) rfl dX6_veilMask_8 ⟨Nat.le_of_ble_eq_true rfl, Nat.le_of_ble_eq_true rfl⟩ (fun r hr => ?_)
  subst hr
  refine asi (z := nI (oR σ q 0)) (hR.own (by omega)) ?_
  refine lv_istore_n (lv' := [(3, .int (nI (oR σ q 0))), (0, .ref (a 0)), (1, .int (nI p0)), (2, .int (nI q))]) hx hb dX6_veilMask_11 rfl hl (by decide) rfl (fun ls hl => ?_)
  refine lv_iload_n hx hb dX6_veilMask_12 rfl (lv_at hl 0 rfl) ?_
  refine lv_iload_n hx hb dX6_veilMask_13 rfl (lv_at hl 2 rfl) ?_
  refine lv_icmp_ne (tgt := 19) hx hb dX6_veilMask_14 (by decide) (fun c_14 => ?_) (fun c_14 => ?_)
  · have n_14 := (not_congr (nI_eq (a := (oR σ q 0)) (b := p0) (by omega) (by omega))).mp c_14
    refine lv_aload_n hx hb dX6_veilMask_19 rfl (lv_at hl 1 rfl) ?_
    refine va_get (D := Γ.1) (ci := 6) (v := .ref (a 1)) (C := RX6) (T := TX6) (N := 6) hx hb hts (by decide +kernel) hown hK hP 0 rfl rfl 0 (by decide) (hts (.fieldLink RX6 12 "RowVeils$State" "rows" "LRowVeils$Rows;") (by decide +kernel)) (fun _ h9 => h9) rfl dX6_veilMask_20 ?_
    refine va_get (D := Γ.1) (ci := 5) (v := .ref (a 8)) (C := RX5) (T := TX5) (N := 5) hx hb hts (by decide +kernel) hown hK hP 1 rfl rfl 3 (by decide) (hts (.fieldLink RX6 78 "RowVeils$Rows" "secrecies" "LRowVeils$Numbers;") (by decide +kernel)) (fun _ h9 => h9) rfl dX6_veilMask_23 ?_
    refine lv_iload_n hx hb dX6_veilMask_26 rfl (lv_at hl 3 rfl) ?_
    refine cRi (As := [.int (nI q)]) (rest := []) (m_X3_get l Γ (a 8) (a 9) 16 q (f 3) (by decide) (by omega)) S k_X3_get gX6_veilMask_X3_get rfl ⟨Nat.le_of_ble_eq_true rfl, Nat.le_of_ble_eq_true rfl⟩ hK hP [8, 9] rfl 0 (ci := 3) rfl rfl rfl rfl hl.1 (Nat.le_of_ble_eq_true rfl) rfl dX6_veilMask_27 ⟨Nat.le_of_ble_eq_true rfl, Nat.le_of_ble_eq_true rfl⟩ (fun r hr => ?_)
    subst hr
    refine asi (z := nI (oR σ q 3)) (hR.sec (by omega)) ?_
    refine lv_istore (lv' := [(4, .int (nI (oR σ q 3))), (3, .int (nI (oR σ q 0))), (0, .ref (a 0)), (1, .int (nI p0)), (2, .int (nI q))]) hx hb dX6_veilMask_30 hl (by decide) rfl (fun ls hl => ?_)
    refine lv_iconst (v := nI 0) hx hb dX6_veilMask_32 (by decide) ?_
    refine lv_istore (lv' := [(5, .int (nI 0)), (4, .int (nI (oR σ q 3))), (3, .int (nI (oR σ q 0))), (0, .ref (a 0)), (1, .int (nI p0)), (2, .int (nI q))]) hx hb dX6_veilMask_33 hl (by decide) rfl (fun ls hl => ?_)
    refine lv_iload hx hb dX6_veilMask_35 (lv_at hl 1 rfl) ?_
    refine lv_aload_n hx hb dX6_veilMask_37 rfl (lv_at hl 3 rfl) ?_
    refine va_get (D := Γ.1) (ci := 6) (v := .ref (a 10)) (C := RX6) (T := TX6) (N := 6) hx hb hts (by decide +kernel) hown hK hP 0 rfl rfl 1 (by decide) (hts (.fieldLink RX6 21 "RowVeils$State" "people" "LRowVeils$People;") (by decide +kernel)) (fun _ h9 => h9) rfl dX6_veilMask_38 ?_
    refine va_get (D := Γ.1) (ci := 4) (v := .ref (a 11)) (C := RX4) (T := TX4) (N := 3) hx hb hts (by decide +kernel) hown hK hP 10 rfl rfl 0 (by decide) (hts (.fieldLink RX6 81 "RowVeils$People" "ranks" "LRowVeils$Numbers;") (by decide +kernel)) (fun _ h9 => h9) rfl dX6_veilMask_41 ?_
    refine lv_iload_n hx hb dX6_veilMask_44 rfl (lv_at hl 4 rfl) ?_
    refine cRi (As := [.int (nI p0)]) (rest := [.int (nI (oR σ q 3))]) (m_X3_get l Γ (a 11) (a 12) 5 p0 (f 4) (by decide) (by omega)) S k_X3_get gX6_veilMask_X3_get rfl ⟨Nat.le_of_ble_eq_true rfl, Nat.le_of_ble_eq_true rfl⟩ hK hP [11, 12] rfl 0 (ci := 3) rfl rfl rfl rfl hl.1 (Nat.le_of_ble_eq_true rfl) rfl dX6_veilMask_45 ⟨Nat.le_of_ble_eq_true rfl, Nat.le_of_ble_eq_true rfl⟩ (fun r hr => ?_)
    subst hr
    refine asi (z := nI (oP σ p0 0)) (hR.rank (by omega)) ?_
    refine lv_icmp_le (tgt := 57) hx hb dX6_veilMask_48 (by decide) (fun c_48 => ?_) (fun c_48 => ?_)
    · have n_48 := (nI_leI (a := (oR σ q 3)) (b := (oP σ p0 0)) (by omega) (by omega)).mp c_48
      exact L_57 (nI 0) (by first | exact bo_t (k := 0) (vm0_iff.mpr (by omega)) | exact bo_f (k := 0) (Bool.eq_false_iff.mpr (fun h => by have := vm0_iff.mp h; omega))) (by first | exact n_14 | exact hne) ls (lv_sub hl [3, 4, 5, 2, 1, 0] rfl)
    · have n_48 := (not_congr (nI_leI (a := (oR σ q 3)) (b := (oP σ p0 0)) (by omega) (by omega))).mp c_48
      refine lv_iload hx hb dX6_veilMask_51 (lv_at hl 0 rfl) ?_
      refine lv_iconst (v := nI 1) hx hb dX6_veilMask_53 (by decide) ?_
      refine lv_ior hx hb dX6_veilMask_54 ?_
      refine lv_istore (lv' := [(5, .int ((nI 0) ||| (nI 1))), (4, .int (nI (oR σ q 3))), (3, .int (nI (oR σ q 0))), (0, .ref (a 0)), (1, .int (nI p0)), (2, .int (nI q))]) hx hb dX6_veilMask_55 hl (by decide) rfl (fun ls hl => ?_)
      exact L_57 ((nI 0) ||| (nI 1)) (by first | exact bo_t (k := 0) (vm0_iff.mpr (by omega)) | exact bo_f (k := 0) (Bool.eq_false_iff.mpr (fun h => by have := vm0_iff.mp h; omega))) (by first | exact n_14 | exact hne) ls (lv_sub hl [3, 4, 5, 2, 1, 0] rfl)
  · have n_14 := (nI_eq (a := (oR σ q 0)) (b := p0) (by omega) (by omega)).mp c_14
    refine lv_iconst (v := nI 0) hx hb dX6_veilMask_17 (by decide) ?_
    exact W.iret (v := nI 0) hx hb hrt (fun t9 ht9 hW9 => ⟨_, rfl, by rw [vmk_own (by omega)], ht9⟩) (fun _ h9 => nomatch h9) dX6_veilMask_18 hlk

abbrev rm_X6_seenRows : Room := { frames := 2, cells := 0, slots := 0, locals := 48 }
theorem k_X6_seenRows : Cal yX6_seenRows wsX6_seenRows rm_X6_seenRows cX6_seenRows 7 (some .int) 4 0 0 := ⟨⟨_, rfl⟩, rfl, rfl, by decide +kernel⟩
set_option maxHeartbeats 4000000 in
set_option maxRecDepth 100000 in
theorem m_X6_seenRows (l : Launch) (Γ : Gm) (a : Nat → Nat) (f : Nat → Nat → Int32) (z : Nat → Int32) (σ : Nat → Nat) (hR : Rep σ f z) (hI : Inv σ) (p0 : Nat) (hp : p0 < 5) (pl : Int32) (lo hi2 : Nat) (hlo : lo < 2 ^ 31) (hhi : hi2 < 2 ^ 31)  : MRi l yX6_seenRows wsX6_seenRows rm_X6_seenRows Γ (wSt Γ a f z) [.ref (a 0), .int (nI p0), .int pl, .int (nI lo), .int (nI hi2)] (fun r => r = nI (seenQ σ p0 pl lo hi2)) := by
  refine mR (cc := cX6_seenRows) (maxL := 7) (ret := (some .int)) (own := RX6) (by decide) rfl rfl (Nat.le_of_ble_eq_true rfl) ?_
  intro p e s m args below meth c S hrt hlk hK hP ls hl
  obtain ⟨hx, hb, hml, hown, hts⟩ := id S
  have hn := hI.n
  have hl : lv_has ls 7 [(0, .ref (a 0)), (1, .int (nI p0)), (2, .int pl), (3, .int (nI lo)), (4, .int (nI hi2))] := hl
  have hP : gP Γ (wSt Γ a f z) s.heap := hP
  have L_6 : ∀ (fuel : Nat), ∀ (k : Nat) (x5 : Int32) (hk : k ≤ σ 0) (hfk : σ 0 - k < fuel) (e_x5 : x5 = nI (bset (skP σ p0 pl lo hi2) k)), ∀ ls : Array Slot, lv_has ls 7 [(0, .ref (a 0)), (1, .int (nI p0)), (2, .int pl), (3, .int (nI lo)), (4, .int (nI hi2)), (6, .int (nI k)), (5, .int x5)] → W p l e rm_X6_seenRows s m args below meth c s.heap [] 0 0 (MQ below (vp_Si (fun r => r = nI (seenQ σ p0 pl lo hi2))) args s 0 0 (fun _ => False)) (F0 m 6 ls []) := by
    intro fuel
    induction fuel with
    | zero => intro k x5 hk hfk e_x5; exact absurd hfk (by omega)
    | succ fuel ih_6 =>
      intro k x5 hk hfk e_x5 ls hl
      subst e_x5
      refine lv_iload hx hb dX6_seenRows_6 (lv_at hl 5 rfl) ?_
      refine lv_aload_n hx hb dX6_seenRows_8 rfl (lv_at hl 0 rfl) ?_
      refine va_get (D := Γ.1) (ci := 6) (v := .ref (a 1)) (C := RX6) (T := TX6) (N := 6) hx hb hts (by decide +kernel) hown hK hP 0 rfl rfl 0 (by decide) (hts (.fieldLink RX6 12 "RowVeils$State" "rows" "LRowVeils$Rows;") (by decide +kernel)) (fun _ h9 => h9) rfl dX6_seenRows_9 ?_
      refine va_get (D := Γ.1) (ci := 5) (v := .int (z 0)) (C := RX5) (T := TX5) (N := 5) hx hb hts (by decide +kernel) hown hK hP 1 rfl rfl 4 (by decide) (hts (.fieldLink RX6 96 "RowVeils$Rows" "size" "I") (by decide +kernel)) (fun _ h9 => h9) rfl dX6_seenRows_12 ?_
      refine asi (z := nI (σ 0)) (hR.n) ?_
      refine lv_icmp_ge (tgt := 59) hx hb dX6_seenRows_15 (by decide) (fun c_15 => ?_) (fun c_15 => ?_)
      · have n_15 := (nI_leI (a := (σ 0)) (b := k) (by omega) (by omega)).mp c_15
        refine lv_iload hx hb dX6_seenRows_59 (lv_at hl 6 rfl) ?_
        exact W.iret (v := nI (bset (skP σ p0 pl lo hi2) k)) hx hb hrt (fun t9 ht9 hW9 => ⟨_, rfl, by unfold seenQ; rw [show σ 0 = k from by omega], ht9⟩) (fun _ h9 => nomatch h9) dX6_seenRows_61 hlk
      · have n_15 := (not_congr (nI_leI (a := (σ 0)) (b := k) (by omega) (by omega))).mp c_15
        refine lv_aload_n hx hb dX6_seenRows_18 rfl (lv_at hl 0 rfl) ?_
        refine va_get (D := Γ.1) (ci := 6) (v := .ref (a 1)) (C := RX6) (T := TX6) (N := 6) hx hb hts (by decide +kernel) hown hK hP 0 rfl rfl 0 (by decide) (hts (.fieldLink RX6 12 "RowVeils$State" "rows" "LRowVeils$Rows;") (by decide +kernel)) (fun _ h9 => h9) rfl dX6_seenRows_19 ?_
        refine lv_iload hx hb dX6_seenRows_22 (lv_at hl 5 rfl) ?_
        refine lv_iload_n hx hb dX6_seenRows_24 rfl (lv_at hl 2 rfl) ?_
        refine lv_iload_n hx hb dX6_seenRows_25 rfl (lv_at hl 3 rfl) ?_
        refine lv_iload hx hb dX6_seenRows_26 (lv_at hl 4 rfl) ?_
        have hrk := hI.row (r := k) (by omega)
        refine cRi (As := [.int (nI k), .int pl, .int (nI lo), .int (nI hi2)]) (rest := []) (m_X5_isMatching l Γ (fun k => a (k + 1)) f (z 0) k (oR σ k 1) (oR σ k 2) (by omega) pl lo hi2 (hR.pla (by omega)) (hR.val (by omega)) (by omega) hlo hhi) S k_X5_isMatching gX6_seenRows_X5_isMatching rfl ⟨Nat.le_of_ble_eq_true rfl, Nat.le_of_ble_eq_true rfl⟩ hK hP [1, 2, 3, 4, 5, 6, 7, 8, 9] rfl 0 (ci := 5) rfl rfl rfl rfl hl.1 (Nat.le_of_ble_eq_true rfl) rfl dX6_seenRows_28 ⟨Nat.le_of_ble_eq_true rfl, Nat.le_of_ble_eq_true rfl⟩ (fun r hr => ?_)
        subst hr
        refine lv_if_eq (tgt := 53) hx hb dX6_seenRows_31 (by decide) (fun c_31 => ?_) (fun c_31 => ?_)
        · have n_31 := bI_z.mp c_31
          refine lv_iinc (v := nI (k + 1)) (lv' := [(6, .int (nI (k + 1))), (0, .ref (a 0)), (1, .int (nI p0)), (2, .int pl), (3, .int (nI lo)), (4, .int (nI hi2)), (5, .int (nI (bset (skP σ p0 pl lo hi2) k)))]) hx hb dX6_seenRows_53 hl (k := 5) rfl (nI_add _ _) (by decide) rfl (fun ls hl => ?_)
          refine lv_goto (tgt := 6) hx hb dX6_seenRows_56 (by decide) ?_
          exact ih_6 (k + 1) (nI (bset (skP σ p0 pl lo hi2) k)) (by omega) (by omega) (by first | exact bo_s (p := (skP σ p0 pl lo hi2)) (by omega) (skP_t n_31 n_41) | exact bo_f (p := (skP σ p0 pl lo hi2)) (skP_f1 n_31) | exact bo_f (p := (skP σ p0 pl lo hi2)) (skP_f2 n_41)) ls (lv_sub hl [1, 2, 3, 4, 5, 0, 6] rfl)
        · have n_31 := bI_nz.mp c_31
          refine lv_aload_n hx hb dX6_seenRows_34 rfl (lv_at hl 0 rfl) ?_
          refine lv_iload_n hx hb dX6_seenRows_35 rfl (lv_at hl 1 rfl) ?_
          refine lv_iload hx hb dX6_seenRows_36 (lv_at hl 5 rfl) ?_
          refine cRi (As := [.int (nI p0), .int (nI k)]) (rest := []) (m_X6_veilMask l Γ a f z σ hR hI p0 k hp (by omega)) S k_X6_veilMask gX6_seenRows_X6_veilMask rfl ⟨Nat.le_of_ble_eq_true rfl, Nat.le_of_ble_eq_true rfl⟩ hK hP [0, 1, 2, 3, 4, 5, 6, 7, 8, 9, 10, 11, 12, 13, 14, 15, 16, 17, 18, 19, 20, 21, 22, 23, 24, 25, 26, 27, 28] rfl 0 (ci := 6) rfl rfl rfl rfl hl.1 (Nat.le_of_ble_eq_true rfl) rfl dX6_seenRows_38 ⟨Nat.le_of_ble_eq_true rfl, Nat.le_of_ble_eq_true rfl⟩ (fun r hr => ?_)
          subst hr
          have hvk := vmk_lt σ p0 k
          refine lv_if_ne (tgt := 53) hx hb dX6_seenRows_41 (by decide) (fun c_41 => ?_) (fun c_41 => ?_)
          · have n_41 := (not_congr (nI_eq (a := (vmk σ p0 k)) (b := 0) (by omega) (by omega))).mp c_41
            refine lv_iinc (v := nI (k + 1)) (lv' := [(6, .int (nI (k + 1))), (0, .ref (a 0)), (1, .int (nI p0)), (2, .int pl), (3, .int (nI lo)), (4, .int (nI hi2)), (5, .int (nI (bset (skP σ p0 pl lo hi2) k)))]) hx hb dX6_seenRows_53 hl (k := 5) rfl (nI_add _ _) (by decide) rfl (fun ls hl => ?_)
            refine lv_goto (tgt := 6) hx hb dX6_seenRows_56 (by decide) ?_
            exact ih_6 (k + 1) (nI (bset (skP σ p0 pl lo hi2) k)) (by omega) (by omega) (by first | exact bo_s (p := (skP σ p0 pl lo hi2)) (by omega) (skP_t n_31 n_41) | exact bo_f (p := (skP σ p0 pl lo hi2)) (skP_f1 n_31) | exact bo_f (p := (skP σ p0 pl lo hi2)) (skP_f2 n_41)) ls (lv_sub hl [1, 2, 3, 4, 5, 0, 6] rfl)
          · have n_41 := (nI_eq (a := (vmk σ p0 k)) (b := 0) (by omega) (by omega)).mp c_41
            refine lv_iload hx hb dX6_seenRows_44 (lv_at hl 6 rfl) ?_
            refine lv_iconst (v := nI 1) hx hb dX6_seenRows_46 (by decide) ?_
            refine lv_iload hx hb dX6_seenRows_47 (lv_at hl 5 rfl) ?_
            refine lv_ishl hx hb dX6_seenRows_49 ?_
            refine lv_ior hx hb dX6_seenRows_50 ?_
            refine lv_istore (lv' := [(5, .int ((nI (bset (skP σ p0 pl lo hi2) k)) ||| ((nI 1) <<< ((nI k) &&& 31)))), (0, .ref (a 0)), (1, .int (nI p0)), (2, .int pl), (3, .int (nI lo)), (4, .int (nI hi2)), (6, .int (nI k))]) hx hb dX6_seenRows_51 hl (by decide) rfl (fun ls hl => ?_)
            refine lv_iinc (v := nI (k + 1)) (lv' := [(6, .int (nI (k + 1))), (5, .int ((nI (bset (skP σ p0 pl lo hi2) k)) ||| ((nI 1) <<< ((nI k) &&& 31)))), (0, .ref (a 0)), (1, .int (nI p0)), (2, .int pl), (3, .int (nI lo)), (4, .int (nI hi2))]) hx hb dX6_seenRows_53 hl (k := 6) rfl (nI_add _ _) (by decide) rfl (fun ls hl => ?_)
            refine lv_goto (tgt := 6) hx hb dX6_seenRows_56 (by decide) ?_
            exact ih_6 (k + 1) ((nI (bset (skP σ p0 pl lo hi2) k)) ||| ((nI 1) <<< ((nI k) &&& 31))) (by omega) (by omega) (by first | exact bo_s (p := (skP σ p0 pl lo hi2)) (by omega) (skP_t n_31 n_41) | exact bo_f (p := (skP σ p0 pl lo hi2)) (skP_f1 n_31) | exact bo_f (p := (skP σ p0 pl lo hi2)) (skP_f2 n_41)) ls (lv_sub hl [2, 3, 4, 5, 6, 0, 1] rfl)
  refine lv_iconst (v := nI 0) hx hb dX6_seenRows_0 (by decide) ?_
  refine lv_istore (lv' := [(5, .int (nI 0)), (0, .ref (a 0)), (1, .int (nI p0)), (2, .int pl), (3, .int (nI lo)), (4, .int (nI hi2))]) hx hb dX6_seenRows_1 hl (by decide) rfl (fun ls hl => ?_)
  refine lv_iconst (v := nI 0) hx hb dX6_seenRows_3 (by decide) ?_
  refine lv_istore (lv' := [(6, .int (nI 0)), (5, .int (nI 0)), (0, .ref (a 0)), (1, .int (nI p0)), (2, .int pl), (3, .int (nI lo)), (4, .int (nI hi2))]) hx hb dX6_seenRows_4 hl (by decide) rfl (fun ls hl => ?_)
  exact L_6 ((σ 0) + 1) 0 (nI 0) (by omega) (by omega) rfl ls (lv_sub hl [2, 3, 4, 5, 6, 0, 1] rfl)

abbrev rm_X6_allSeen : Room := { frames := 3, cells := 0, slots := 0, locals := 74 }
theorem k_X6_allSeen : Cal yX6_allSeen wsX6_allSeen rm_X6_allSeen cX6_allSeen 2 (some .int) 1 0 0 := ⟨⟨_, rfl⟩, rfl, rfl, by decide +kernel⟩
set_option maxHeartbeats 4000000 in
set_option maxRecDepth 100000 in
theorem m_X6_allSeen (l : Launch) (Γ : Gm) (a : Nat → Nat) (f : Nat → Nat → Int32) (z : Nat → Int32) (σ : Nat → Nat) (hR : Rep σ f z) (hI : Inv σ) (p0 : Nat) (hp : p0 < 5) : MRi l yX6_allSeen wsX6_allSeen rm_X6_allSeen Γ (wSt Γ a f z) [.ref (a 0), .int (nI p0)] (fun r => r = nI (sAll σ p0)) := by
  refine mR (cc := cX6_allSeen) (maxL := 2) (ret := (some .int)) (own := RX6) (by decide) rfl rfl (Nat.le_of_ble_eq_true rfl) ?_
  intro p e s m args below meth c S hrt hlk hK hP ls hl
  obtain ⟨hx, hb, hml, hown, hts⟩ := id S
  have hl : lv_has ls 2 [(0, .ref (a 0)), (1, .int (nI p0))] := hl
  have hP : gP Γ (wSt Γ a f z) s.heap := hP
  refine lv_aload_n hx hb dX6_allSeen_0 rfl (lv_at hl 0 rfl) ?_
  refine lv_iload_n hx hb dX6_allSeen_1 rfl (lv_at hl 1 rfl) ?_
  refine lv_iconst (v := (-1)) hx hb dX6_allSeen_2 (by decide) ?_
  refine lv_iconst (v := nI 0) hx hb dX6_allSeen_3 (by decide) ?_
  refine lv_bipush (v := nI 99) hx hb dX6_allSeen_4 (by decide) ?_
  refine cRi (As := [.int (nI p0), .int (-1), .int (nI 0), .int (nI 99)]) (rest := []) (m_X6_seenRows l Γ a f z σ hR hI p0 hp (-1) 0 99 (by decide) (by decide)) S k_X6_seenRows gX6_allSeen_X6_seenRows rfl ⟨Nat.le_of_ble_eq_true rfl, Nat.le_of_ble_eq_true rfl⟩ hK hP [0, 1, 2, 3, 4, 5, 6, 7, 8, 9, 10, 11, 12, 13, 14, 15, 16, 17, 18, 19, 20, 21, 22, 23, 24, 25, 26, 27, 28] rfl 0 (ci := 6) rfl rfl rfl rfl hl.1 (Nat.le_of_ble_eq_true rfl) rfl dX6_allSeen_6 ⟨Nat.le_of_ble_eq_true rfl, Nat.le_of_ble_eq_true rfl⟩ (fun r hr => ?_)
  subst hr
  exact W.iret (v := nI (seenQ σ p0 (-1) 0 99)) hx hb hrt (fun t9 ht9 hW9 => ⟨_, rfl, rfl, ht9⟩) (fun _ h9 => nomatch h9) dX6_allSeen_9 hlk

abbrev rm_X6_isTooSmall : Room := { frames := 1, cells := 0, slots := 0, locals := 21 }
theorem k_X6_isTooSmall : Cal yX6_isTooSmall wsX6_isTooSmall rm_X6_isTooSmall cX6_isTooSmall 2 (some .boolean) 1 0 0 := ⟨⟨_, rfl⟩, rfl, rfl, by decide +kernel⟩
set_option maxHeartbeats 4000000 in
set_option maxRecDepth 100000 in
theorem m_X6_isTooSmall (l : Launch) (Γ : Gm) (a : Nat → Nat) (f : Nat → Nat → Int32) (z : Nat → Int32) (σ : Nat → Nat) (hR : Rep σ f z) (hI : Inv σ) (x : Nat) (hx0 : x < 65536) : MRi l yX6_isTooSmall wsX6_isTooSmall rm_X6_isTooSmall Γ (wSt Γ a f z) [.ref (a 0), .int (nI x)] (fun r => r = bI (small σ x)) := by
  refine mR (cc := cX6_isTooSmall) (maxL := 2) (ret := (some .boolean)) (own := RX6) (by decide) rfl rfl (Nat.le_of_ble_eq_true rfl) ?_
  intro p e s m args below meth c S hrt hlk hK hP ls hl
  obtain ⟨hx, hb, hml, hown, hts⟩ := id S
  have ho := ones_le x
  have hl0 := hI.least
  have hl : lv_has ls 2 [(0, .ref (a 0)), (1, .int (nI x))] := hl
  have hP : gP Γ (wSt Γ a f z) s.heap := hP
  refine lv_iload_n hx hb dX6_isTooSmall_0 rfl (lv_at hl 1 rfl) ?_
  refine lv_if_eq (tgt := 23) hx hb dX6_isTooSmall_1 (by decide) (fun c_1 => ?_) (fun c_1 => ?_)
  · have n_1 := (nI_eq (a := x) (b := 0) (by omega) (by omega)).mp c_1
    refine lv_iconst (v := nI 0) hx hb dX6_isTooSmall_23 (by decide) ?_
    exact W.zret (v := nI 0) hx hb hrt (z0) (fun t9 ht9 hW9 => ⟨_, rfl, bf (by unfold small; first | (rw [decide_eq_false (p := ¬ x = 0) (by omega)]; rfl) | (rw [decide_eq_false (p := ones x < σ 2) (by omega), Bool.and_false])), ht9⟩) (fun _ h9 => nomatch h9) dX6_isTooSmall_24 hlk
  · have n_1 := (not_congr (nI_eq (a := x) (b := 0) (by omega) (by omega))).mp c_1
    refine lv_iload_n hx hb dX6_isTooSmall_4 rfl (lv_at hl 1 rfl) ?_
    refine cSi (As := [.int (nI x)]) (rest := []) (m_J6_bitCount_0f7a4 l (nI x)) S k_J6_bitCount_0f7a4 gX6_isTooSmall_J6_bitCount_0f7a4 ⟨Nat.le_of_ble_eq_true rfl, Nat.le_of_ble_eq_true rfl⟩ rfl hl.1 (Nat.le_of_ble_eq_true rfl) rfl dX6_isTooSmall_5 ⟨Nat.le_of_ble_eq_true rfl, Nat.le_of_ble_eq_true rfl⟩ (fun r hr => ?_)
    subst hr
    refine asi (z := nI (ones x)) (bc_ones hx0) ?_
    refine lv_aload_n hx hb dX6_isTooSmall_8 rfl (lv_at hl 0 rfl) ?_
    refine va_get (D := Γ.1) (ci := 6) (v := .ref (a 27)) (C := RX6) (T := TX6) (N := 6) hx hb hts (by decide +kernel) hown hK hP 0 rfl rfl 4 (by decide) (hts (.fieldLink RX6 44 "RowVeils$State" "settings" "LRowVeils$Numbers;") (by decide +kernel)) (fun _ h9 => h9) rfl dX6_isTooSmall_9 ?_
    refine lv_iconst (v := nI 0) hx hb dX6_isTooSmall_12 (by decide) ?_
    refine cRi (As := [.int (nI 0)]) (rest := [.int (nI (ones x))]) (m_X3_get l Γ (a 27) (a 28) 3 0 (f 11) (by decide) (by omega)) S k_X3_get gX6_isTooSmall_X3_get rfl ⟨Nat.le_of_ble_eq_true rfl, Nat.le_of_ble_eq_true rfl⟩ hK hP [27, 28] rfl 0 (ci := 3) rfl rfl rfl rfl hl.1 (Nat.le_of_ble_eq_true rfl) rfl dX6_isTooSmall_13 ⟨Nat.le_of_ble_eq_true rfl, Nat.le_of_ble_eq_true rfl⟩ (fun r hr => ?_)
    subst hr
    refine asi (z := nI (σ 2)) (hR.set (by decide)) ?_
    refine lv_icmp_ge (tgt := 23) hx hb dX6_isTooSmall_16 (by decide) (fun c_16 => ?_) (fun c_16 => ?_)
    · have n_16 := (nI_leI (a := (σ 2)) (b := (ones x)) (by omega) (by omega)).mp c_16
      refine lv_iconst (v := nI 0) hx hb dX6_isTooSmall_23 (by decide) ?_
      exact W.zret (v := nI 0) hx hb hrt (z0) (fun t9 ht9 hW9 => ⟨_, rfl, bf (by unfold small; first | (rw [decide_eq_false (p := ¬ x = 0) (by omega)]; rfl) | (rw [decide_eq_false (p := ones x < σ 2) (by omega), Bool.and_false])), ht9⟩) (fun _ h9 => nomatch h9) dX6_isTooSmall_24 hlk
    · have n_16 := (not_congr (nI_leI (a := (σ 2)) (b := (ones x)) (by omega) (by omega))).mp c_16
      refine lv_iconst (v := nI 1) hx hb dX6_isTooSmall_19 (by decide) ?_
      refine lv_goto (tgt := 24) hx hb dX6_isTooSmall_20 (by decide) ?_
      exact W.zret (v := nI 1) hx hb hrt (z1) (fun t9 ht9 hW9 => ⟨_, rfl, bt (by unfold small; rw [decide_eq_true (by omega), decide_eq_true (by omega)]; rfl), ht9⟩) (fun _ h9 => nomatch h9) dX6_isTooSmall_24 hlk

abbrev rm_X6_roundedDown : Room := { frames := 0, cells := 0, slots := 0, locals := 0 }
theorem k_X6_roundedDown : Cal yX6_roundedDown wsX6_roundedDown rm_X6_roundedDown cX6_roundedDown 2 (some .int) 2 0 0 := ⟨⟨_, rfl⟩, rfl, rfl, by decide +kernel⟩
set_option maxHeartbeats 4000000 in
set_option maxRecDepth 100000 in
theorem m_X6_roundedDown (l : Launch) (n st : Nat) (hn : n < 2 ^ 31) (hs : 0 < st) (hs2 : st < 2 ^ 31) : MSi l yX6_roundedDown wsX6_roundedDown rm_X6_roundedDown [.int (nI n), .int (nI st)] (fun r => r = nI (n - n % st)) := by
  refine mS (cc := cX6_roundedDown) (maxL := 2) (ret := (some .int)) (own := RX6) (by decide) rfl rfl (Nat.le_of_ble_eq_true rfl) ?_
  intro p e s m args below meth c S hrt hlk ls hl
  obtain ⟨hx, hb, hml, hown, hts⟩ := id S
  have hl : lv_has ls 2 [(0, .int (nI n)), (1, .int (nI st))] := hl
  refine lv_iload_n hx hb dX6_roundedDown_0 rfl (lv_at hl 1 rfl) ?_
  refine lv_if_le (tgt := 12) hx hb dX6_roundedDown_1 (by decide) (fun c_1 => ?_) (fun c_1 => ?_)
  · have n_1 := (nI_leI (a := st) (b := 0) (by omega) (by omega)).mp c_1
    exact absurd n_1 (by omega)
  · have n_1 := (not_congr (nI_leI (a := st) (b := 0) (by omega) (by omega))).mp c_1
    refine lv_iload_n hx hb dX6_roundedDown_4 rfl (lv_at hl 0 rfl) ?_
    refine lv_iload_n hx hb dX6_roundedDown_5 rfl (lv_at hl 0 rfl) ?_
    refine lv_iload_n hx hb dX6_roundedDown_6 rfl (lv_at hl 1 rfl) ?_
    refine lv_irem hx hb dX6_roundedDown_7 (nI_ne0 hs hs2) ?_
    refine asi (z := nI (n % st)) (pk_rem hn hs hs2) ?_
    refine lv_isub hx hb dX6_roundedDown_8 ?_
    refine asi (z := nI (n - n % st)) (pk_sub (Nat.mod_le _ _)) ?_
    refine lv_goto (tgt := 13) hx hb dX6_roundedDown_9 (by decide) ?_
    exact W.iret (v := nI (n - n % st)) hx hb hrt (fun t9 ht9 hW9 => ⟨_, rfl, rfl, ht9⟩) (fun _ h9 => nomatch h9) dX6_roundedDown_13 hlk

abbrev rm_X6_countAnswer : Room := { frames := 3, cells := 0, slots := 0, locals := 66 }
theorem k_X6_countAnswer : Cal yX6_countAnswer wsX6_countAnswer rm_X6_countAnswer cX6_countAnswer 4 (some .int) 2 0 0 := ⟨⟨_, rfl⟩, rfl, rfl, by decide +kernel⟩
set_option maxHeartbeats 4000000 in
set_option maxRecDepth 100000 in
theorem m_X6_countAnswer (l : Launch) (Γ : Gm) (a : Nat → Nat) (f : Nat → Nat → Int32) (z : Nat → Int32) (σ : Nat → Nat) (hR : Rep σ f z) (hI : Inv σ) (p0 : Nat) (hp : p0 < 5) (x : Nat) (hx0 : x < 65536) : MRi l yX6_countAnswer wsX6_countAnswer rm_X6_countAnswer Γ (wSt Γ a f z) [.ref (a 0), .int (nI p0), .int (nI x)] (fun r => r = cAns σ p0 x) := by
  refine mR (cc := cX6_countAnswer) (maxL := 4) (ret := (some .int)) (own := RX6) (by decide) rfl rfl (Nat.le_of_ble_eq_true rfl) ?_
  intro p e s m args below meth c S hrt hlk hK hP ls hl
  obtain ⟨hx, hb, hml, hown, hts⟩ := id S
  have ho := ones_le x
  have hl0 := hI.coarse
  have hd0 := hI.diff
  have hl : lv_has ls 4 [(0, .ref (a 0)), (1, .int (nI p0)), (2, .int (nI x))] := hl
  have hP : gP Γ (wSt Γ a f z) s.heap := hP
  have L_37 : ∀ (y : Int32) (e_y : y = bI (cRef σ p0 x)), ∀ ls : Array Slot, lv_has ls 4 [(0, .ref (a 0)), (1, .int (nI p0)), (2, .int (nI x))] → W p l e rm_X6_countAnswer s m args below meth c s.heap [] 0 0 (MQ below (vp_Si (fun r => r = cAns σ p0 x)) args s 0 0 (fun _ => False)) (F0 m 37 ls [.int y]) := by
    intro y e_y ls hl
    subst e_y
    refine lv_istore_n (lv' := [(3, .int (bI (cRef σ p0 x))), (0, .ref (a 0)), (1, .int (nI p0)), (2, .int (nI x))]) hx hb dX6_countAnswer_37 rfl hl (by decide) rfl (fun ls hl => ?_)
    refine lv_iload_n hx hb dX6_countAnswer_38 rfl (lv_at hl 0 rfl) ?_
    refine lv_if_eq (tgt := 46) hx hb dX6_countAnswer_39 (by decide) (fun c_39 => ?_) (fun c_39 => ?_)
    · have n_39 := bI_z.mp c_39
      refine lv_iload_n hx hb dX6_countAnswer_46 rfl (lv_at hl 3 rfl) ?_
      refine cSi (As := [.int (nI x)]) (rest := []) (m_J6_bitCount_0f7a4 l (nI x)) S k_J6_bitCount_0f7a4 gX6_countAnswer_J6_bitCount_0f7a4 ⟨Nat.le_of_ble_eq_true rfl, Nat.le_of_ble_eq_true rfl⟩ rfl hl.1 (Nat.le_of_ble_eq_true rfl) rfl dX6_countAnswer_47 ⟨Nat.le_of_ble_eq_true rfl, Nat.le_of_ble_eq_true rfl⟩ (fun r hr => ?_)
      subst hr
      refine asi (z := nI (ones x)) (bc_ones hx0) ?_
      refine lv_aload_n hx hb dX6_countAnswer_50 rfl (lv_at hl 1 rfl) ?_
      refine va_get (D := Γ.1) (ci := 6) (v := .ref (a 27)) (C := RX6) (T := TX6) (N := 6) hx hb hts (by decide +kernel) hown hK hP 0 rfl rfl 4 (by decide) (hts (.fieldLink RX6 44 "RowVeils$State" "settings" "LRowVeils$Numbers;") (by decide +kernel)) (fun _ h9 => h9) rfl dX6_countAnswer_51 ?_
      refine lv_iconst (v := nI 1) hx hb dX6_countAnswer_54 (by decide) ?_
      refine cRi (As := [.int (nI 1)]) (rest := [.int (nI (ones x))]) (m_X3_get l Γ (a 27) (a 28) 3 1 (f 11) (by decide) (by omega)) S k_X3_get gX6_countAnswer_X3_get rfl ⟨Nat.le_of_ble_eq_true rfl, Nat.le_of_ble_eq_true rfl⟩ hK hP [27, 28] rfl 0 (ci := 3) rfl rfl rfl rfl hl.1 (Nat.le_of_ble_eq_true rfl) rfl dX6_countAnswer_55 ⟨Nat.le_of_ble_eq_true rfl, Nat.le_of_ble_eq_true rfl⟩ (fun r hr => ?_)
      subst hr
      refine asi (z := nI (σ 3)) (hR.set (by decide)) ?_
      refine cSi (As := [.int (nI (ones x)), .int (nI (σ 3))]) (rest := []) (m_X6_roundedDown l (ones x) (σ 3) (by omega) (by omega) (by omega)) S k_X6_roundedDown gX6_countAnswer_X6_roundedDown ⟨Nat.le_of_ble_eq_true rfl, Nat.le_of_ble_eq_true rfl⟩ rfl hl.1 (Nat.le_of_ble_eq_true rfl) rfl dX6_countAnswer_58 ⟨Nat.le_of_ble_eq_true rfl, Nat.le_of_ble_eq_true rfl⟩ (fun r hr => ?_)
      subst hr
      exact W.iret (v := nI ((ones x) - (ones x) % (σ 3))) hx hb hrt (fun t9 ht9 hW9 => ⟨_, rfl, by unfold cAns; rw [if_neg (by rw [n_39]; decide)], ht9⟩) (fun _ h9 => nomatch h9) dX6_countAnswer_61 hlk
    · have n_39 := bI_nz.mp c_39
      refine lv_iconst (v := (-1)) hx hb dX6_countAnswer_42 (by decide) ?_
      refine lv_goto (tgt := 61) hx hb dX6_countAnswer_43 (by decide) ?_
      exact W.iret (v := (-1)) hx hb hrt (fun t9 ht9 hW9 => ⟨_, rfl, by unfold cAns; rw [if_pos n_39], ht9⟩) (fun _ h9 => nomatch h9) dX6_countAnswer_61 hlk
  refine lv_aload_n hx hb dX6_countAnswer_0 rfl (lv_at hl 0 rfl) ?_
  refine lv_iload_n hx hb dX6_countAnswer_1 rfl (lv_at hl 2 rfl) ?_
  refine cRi (As := [.int (nI x)]) (rest := []) (m_X6_isTooSmall l Γ a f z σ hR hI x hx0) S k_X6_isTooSmall gX6_countAnswer_X6_isTooSmall rfl ⟨Nat.le_of_ble_eq_true rfl, Nat.le_of_ble_eq_true rfl⟩ hK hP [0, 1, 2, 3, 4, 5, 6, 7, 8, 9, 10, 11, 12, 13, 14, 15, 16, 17, 18, 19, 20, 21, 22, 23, 24, 25, 26, 27, 28] rfl 0 (ci := 6) rfl rfl rfl rfl hl.1 (Nat.le_of_ble_eq_true rfl) rfl dX6_countAnswer_2 ⟨Nat.le_of_ble_eq_true rfl, Nat.le_of_ble_eq_true rfl⟩ (fun r hr => ?_)
  subst hr
  refine lv_if_ne (tgt := 32) hx hb dX6_countAnswer_5 (by decide) (fun c_5 => ?_) (fun c_5 => ?_)
  · have n_5 := bI_nz.mp c_5
    refine lv_iconst (v := nI 1) hx hb dX6_countAnswer_32 (by decide) ?_
    refine lv_goto (tgt := 37) hx hb dX6_countAnswer_33 (by decide) ?_
    exact L_37 (nI 1) (by unfold cRef; first | exact bt (by rw [n_5]; rfl) | exact bt (by rw [n_29, decide_eq_true (by omega), Bool.and_true, Bool.or_true]) | exact bf (by rw [n_5, decide_eq_false (by omega)]; rfl) | exact bf (by rw [n_5, n_29, Bool.and_false]; rfl)) ls (lv_sub hl [0, 1, 2] rfl)
  · have n_5 := bI_z.mp c_5
    refine lv_aload_n hx hb dX6_countAnswer_8 rfl (lv_at hl 0 rfl) ?_
    refine va_get (D := Γ.1) (ci := 6) (v := .ref (a 27)) (C := RX6) (T := TX6) (N := 6) hx hb hts (by decide +kernel) hown hK hP 0 rfl rfl 4 (by decide) (hts (.fieldLink RX6 44 "RowVeils$State" "settings" "LRowVeils$Numbers;") (by decide +kernel)) (fun _ h9 => h9) rfl dX6_countAnswer_9 ?_
    refine lv_iconst (v := nI 2) hx hb dX6_countAnswer_12 (by decide) ?_
    refine cRi (As := [.int (nI 2)]) (rest := []) (m_X3_get l Γ (a 27) (a 28) 3 2 (f 11) (by decide) (by omega)) S k_X3_get gX6_countAnswer_X3_get rfl ⟨Nat.le_of_ble_eq_true rfl, Nat.le_of_ble_eq_true rfl⟩ hK hP [27, 28] rfl 0 (ci := 3) rfl rfl rfl rfl hl.1 (Nat.le_of_ble_eq_true rfl) rfl dX6_countAnswer_13 ⟨Nat.le_of_ble_eq_true rfl, Nat.le_of_ble_eq_true rfl⟩ (fun r hr => ?_)
    subst hr
    refine asi (z := nI (σ 4)) (hR.set (by decide)) ?_
    refine lv_iconst (v := nI 1) hx hb dX6_countAnswer_16 (by decide) ?_
    refine lv_icmp_ne (tgt := 36) hx hb dX6_countAnswer_17 (by decide) (fun c_17 => ?_) (fun c_17 => ?_)
    · have n_17 := (not_congr (nI_eq (a := (σ 4)) (b := 1) (by omega) (by omega))).mp c_17
      refine lv_iconst (v := nI 0) hx hb dX6_countAnswer_36 (by decide) ?_
      exact L_37 (nI 0) (by unfold cRef; first | exact bt (by rw [n_5]; rfl) | exact bt (by rw [n_29, decide_eq_true (by omega), Bool.and_true, Bool.or_true]) | exact bf (by rw [n_5, decide_eq_false (by omega)]; rfl) | exact bf (by rw [n_5, n_29, Bool.and_false]; rfl)) ls (lv_sub hl [0, 1, 2] rfl)
    · have n_17 := (nI_eq (a := (σ 4)) (b := 1) (by omega) (by omega)).mp c_17
      refine lv_aload_n hx hb dX6_countAnswer_20 rfl (lv_at hl 0 rfl) ?_
      refine va_get (D := Γ.1) (ci := 6) (v := .ref (a 17)) (C := RX6) (T := TX6) (N := 6) hx hb hts (by decide +kernel) hown hK hP 0 rfl rfl 2 (by decide) (hts (.fieldLink RX6 28 "RowVeils$State" "memory" "LRowVeils$Memory;") (by decide +kernel)) (fun _ h9 => h9) rfl dX6_countAnswer_21 ?_
      refine lv_iload_n hx hb dX6_countAnswer_24 rfl (lv_at hl 1 rfl) ?_
      refine lv_iload_n hx hb dX6_countAnswer_25 rfl (lv_at hl 2 rfl) ?_
      refine cRi (As := [.int (nI p0), .int (nI x)]) (rest := []) (m_X2_givesAway l Γ (fun k => a (k + 17)) (fun k => f (k + 7)) p0 (oK σ p0) hp (hI.kept hp) (hR.kept hp) (nI x)) S k_X2_givesAway gX6_countAnswer_X2_givesAway rfl ⟨Nat.le_of_ble_eq_true rfl, Nat.le_of_ble_eq_true rfl⟩ hK hP [17, 18, 19, 20, 21] rfl 0 (ci := 2) rfl rfl rfl rfl hl.1 (Nat.le_of_ble_eq_true rfl) rfl dX6_countAnswer_26 ⟨Nat.le_of_ble_eq_true rfl, Nat.le_of_ble_eq_true rfl⟩ (fun r hr => ?_)
      subst hr
      rw [gvI_S (σ := σ) hx0 (fun k hk => ⟨hR.mask hp hk, hI.mask hp hk⟩)]
      refine asi (z := bI (givesQ σ p0 x)) rfl ?_
      refine lv_if_eq (tgt := 36) hx hb dX6_countAnswer_29 (by decide) (fun c_29 => ?_) (fun c_29 => ?_)
      · have n_29 := bI_z.mp c_29
        refine lv_iconst (v := nI 0) hx hb dX6_countAnswer_36 (by decide) ?_
        exact L_37 (nI 0) (by unfold cRef; first | exact bt (by rw [n_5]; rfl) | exact bt (by rw [n_29, decide_eq_true (by omega), Bool.and_true, Bool.or_true]) | exact bf (by rw [n_5, decide_eq_false (by omega)]; rfl) | exact bf (by rw [n_5, n_29, Bool.and_false]; rfl)) ls (lv_sub hl [0, 1, 2] rfl)
      · have n_29 := bI_nz.mp c_29
        refine lv_iconst (v := nI 1) hx hb dX6_countAnswer_32 (by decide) ?_
        refine lv_goto (tgt := 37) hx hb dX6_countAnswer_33 (by decide) ?_
        exact L_37 (nI 1) (by unfold cRef; first | exact bt (by rw [n_5]; rfl) | exact bt (by rw [n_29, decide_eq_true (by omega), Bool.and_true, Bool.or_true]) | exact bf (by rw [n_5, decide_eq_false (by omega)]; rfl) | exact bf (by rw [n_5, n_29, Bool.and_false]; rfl)) ls (lv_sub hl [0, 1, 2] rfl)

abbrev rm_X6_sumAnswer : Room := { frames := 2, cells := 0, slots := 0, locals := 42 }
theorem k_X6_sumAnswer : Cal yX6_sumAnswer wsX6_sumAnswer rm_X6_sumAnswer cX6_sumAnswer 6 (some .int) 1 0 0 := ⟨⟨_, rfl⟩, rfl, rfl, by decide +kernel⟩
set_option maxHeartbeats 4000000 in
set_option maxRecDepth 100000 in
theorem m_X6_sumAnswer (l : Launch) (Γ : Gm) (a : Nat → Nat) (f : Nat → Nat → Int32) (z : Nat → Int32) (σ : Nat → Nat) (hR : Rep σ f z) (hI : Inv σ) (x : Nat) (hx0 : x < 65536) : MRi l yX6_sumAnswer wsX6_sumAnswer rm_X6_sumAnswer Γ (wSt Γ a f z) [.ref (a 0), .int (nI x)] (fun r => r = sAns σ x) := by
  refine mR (cc := cX6_sumAnswer) (maxL := 6) (ret := (some .int)) (own := RX6) (by decide) rfl rfl (Nat.le_of_ble_eq_true rfl) ?_
  intro p e s m args below meth c S hrt hlk hK hP ls hl
  obtain ⟨hx, hb, hml, hown, hts⟩ := id S
  have hn := hI.n
  have hl : lv_has ls 6 [(0, .ref (a 0)), (1, .int (nI x))] := hl
  have hP : gP Γ (wSt Γ a f z) s.heap := hP
  have L_7 : ∀ (fuel : Nat), ∀ (k : Nat) (x2 : Int32) (x3 : Int32) (hk : k ≤ σ 0) (hfk : σ 0 - k < fuel) (e_x2 : x2 = nI (sumS σ x k)) (e_x3 : x3 = nI (topS σ x k)), ∀ ls : Array Slot, lv_has ls 6 [(0, .ref (a 0)), (1, .int (nI x)), (4, .int (nI k)), (2, .int x2), (3, .int x3)] → W p l e rm_X6_sumAnswer s m args below meth c s.heap [] 0 0 (MQ below (vp_Si (fun r => r = sAns σ x)) args s 0 0 (fun _ => False)) (F0 m 7 ls []) := by
    intro fuel
    induction fuel with
    | zero => intro k x2 x3 hk hfk e_x2 e_x3; exact absurd hfk (by omega)
    | succ fuel ih_7 =>
      intro k x2 x3 hk hfk e_x2 e_x3 ls hl
      subst e_x2 e_x3
      refine lv_iload hx hb dX6_sumAnswer_7 (lv_at hl 2 rfl) ?_
      refine lv_aload_n hx hb dX6_sumAnswer_9 rfl (lv_at hl 0 rfl) ?_
      refine va_get (D := Γ.1) (ci := 6) (v := .ref (a 1)) (C := RX6) (T := TX6) (N := 6) hx hb hts (by decide +kernel) hown hK hP 0 rfl rfl 0 (by decide) (hts (.fieldLink RX6 12 "RowVeils$State" "rows" "LRowVeils$Rows;") (by decide +kernel)) (fun _ h9 => h9) rfl dX6_sumAnswer_10 ?_
      refine va_get (D := Γ.1) (ci := 5) (v := .int (z 0)) (C := RX5) (T := TX5) (N := 5) hx hb hts (by decide +kernel) hown hK hP 1 rfl rfl 4 (by decide) (hts (.fieldLink RX6 96 "RowVeils$Rows" "size" "I") (by decide +kernel)) (fun _ h9 => h9) rfl dX6_sumAnswer_13 ?_
      refine asi (z := nI (σ 0)) (hR.n) ?_
      refine lv_icmp_ge (tgt := 61) hx hb dX6_sumAnswer_16 (by decide) (fun c_16 => ?_) (fun c_16 => ?_)
      · have n_16 := (nI_leI (a := (σ 0)) (b := k) (by omega) (by omega)).mp c_16
        refine lv_aload_n hx hb dX6_sumAnswer_61 rfl (lv_at hl 0 rfl) ?_
        refine lv_iload_n hx hb dX6_sumAnswer_62 rfl (lv_at hl 1 rfl) ?_
        have hs0 := sumS_le hI x (n := k) (by omega)
        have ht0 := topS_le hI x (n := k) (by omega)
        refine cRi (As := [.int (nI x)]) (rest := []) (m_X6_isTooSmall l Γ a f z σ hR hI x hx0) S k_X6_isTooSmall gX6_sumAnswer_X6_isTooSmall rfl ⟨Nat.le_of_ble_eq_true rfl, Nat.le_of_ble_eq_true rfl⟩ hK hP [0, 1, 2, 3, 4, 5, 6, 7, 8, 9, 10, 11, 12, 13, 14, 15, 16, 17, 18, 19, 20, 21, 22, 23, 24, 25, 26, 27, 28] rfl 0 (ci := 6) rfl rfl rfl rfl hl.1 (Nat.le_of_ble_eq_true rfl) rfl dX6_sumAnswer_63 ⟨Nat.le_of_ble_eq_true rfl, Nat.le_of_ble_eq_true rfl⟩ (fun r hr => ?_)
        subst hr
        refine lv_if_ne (tgt := 76) hx hb dX6_sumAnswer_66 (by decide) (fun c_66 => ?_) (fun c_66 => ?_)
        · have n_66 := bI_nz.mp c_66
          refine lv_iconst (v := (-1)) hx hb dX6_sumAnswer_76 (by decide) ?_
          refine lv_goto (tgt := 81) hx hb dX6_sumAnswer_77 (by decide) ?_
          exact W.iret (v := (-1)) hx hb hrt (fun t9 ht9 hW9 => ⟨_, rfl, by unfold sAns; rw [show σ 0 = k from by omega]; first | rw [if_pos (Or.inl n_66)] | rw [if_pos (Or.inr (by omega))], ht9⟩) (fun _ h9 => nomatch h9) dX6_sumAnswer_81 hlk
        · have n_66 := bI_z.mp c_66
          refine lv_iconst (v := nI 2) hx hb dX6_sumAnswer_69 (by decide) ?_
          refine lv_iload_n hx hb dX6_sumAnswer_70 rfl (lv_at hl 4 rfl) ?_
          refine lv_imul hx hb dX6_sumAnswer_71 ?_
          refine asi (z := nI (2 * (topS σ x k))) (pk_mul _ _) ?_
          refine lv_iload_n hx hb dX6_sumAnswer_72 rfl (lv_at hl 3 rfl) ?_
          refine lv_icmp_le (tgt := 80) hx hb dX6_sumAnswer_73 (by decide) (fun c_73 => ?_) (fun c_73 => ?_)
          · have n_73 := (nI_leI (a := (2 * (topS σ x k))) (b := (sumS σ x k)) (by omega) (by omega)).mp c_73
            refine lv_iload_n hx hb dX6_sumAnswer_80 rfl (lv_at hl 3 rfl) ?_
            exact W.iret (v := nI (sumS σ x k)) hx hb hrt (fun t9 ht9 hW9 => ⟨_, rfl, by unfold sAns; rw [show σ 0 = k from by omega, if_neg (fun h => h.elim (fun h => by rw [n_66] at h; cases h) (fun h => by omega))], ht9⟩) (fun _ h9 => nomatch h9) dX6_sumAnswer_81 hlk
          · have n_73 := (not_congr (nI_leI (a := (2 * (topS σ x k))) (b := (sumS σ x k)) (by omega) (by omega))).mp c_73
            refine lv_iconst (v := (-1)) hx hb dX6_sumAnswer_76 (by decide) ?_
            refine lv_goto (tgt := 81) hx hb dX6_sumAnswer_77 (by decide) ?_
            exact W.iret (v := (-1)) hx hb hrt (fun t9 ht9 hW9 => ⟨_, rfl, by unfold sAns; rw [show σ 0 = k from by omega]; first | rw [if_pos (Or.inl n_66)] | rw [if_pos (Or.inr (by omega))], ht9⟩) (fun _ h9 => nomatch h9) dX6_sumAnswer_81 hlk
      · have n_16 := (not_congr (nI_leI (a := (σ 0)) (b := k) (by omega) (by omega))).mp c_16
        refine lv_iload_n hx hb dX6_sumAnswer_19 rfl (lv_at hl 1 rfl) ?_
        refine lv_iload hx hb dX6_sumAnswer_20 (lv_at hl 2 rfl) ?_
        refine lv_ishr hx hb dX6_sumAnswer_22 ?_
        refine asi (z := nI (x >>> k)) (shr_n (by omega) (by omega)) ?_
        refine lv_iconst (v := nI 1) hx hb dX6_sumAnswer_23 (by decide) ?_
        refine lv_iand hx hb dX6_sumAnswer_24 ?_
        refine asi (z := nI ((x >>> k) % 2)) (by rw [nI_and, Nat.and_one_is_mod]) ?_
        refine lv_iconst (v := nI 1) hx hb dX6_sumAnswer_25 (by decide) ?_
        refine lv_icmp_ne (tgt := 55) hx hb dX6_sumAnswer_26 (by decide) (fun c_26 => ?_) (fun c_26 => ?_)
        · have n_26 : x.testBit k = false := tb_f (fun h => c_26 (by rw [h]))
          refine lv_iinc (v := nI (k + 1)) (lv' := [(4, .int (nI (k + 1))), (0, .ref (a 0)), (1, .int (nI x)), (2, .int (nI (sumS σ x k))), (3, .int (nI (topS σ x k)))]) hx hb dX6_sumAnswer_55 hl (k := 2) rfl (nI_add _ _) (by decide) rfl (fun ls hl => ?_)
          refine lv_goto (tgt := 7) hx hb dX6_sumAnswer_58 (by decide) ?_
          exact ih_7 (k + 1) (nI (sumS σ x k)) (nI (topS σ x k)) (by omega) (by omega) (by first | (rw [show sumS σ x (k + 1) = sumS σ x k + oR σ k 2 from by show _ + (if _ then _ else _) = _; rw [n_26]; rfl]) | (rw [show sumS σ x (k + 1) = sumS σ x k from by show _ + (if _ then _ else _) = _; rw [n_26]; rfl])) (by first | (rw [show topS σ x (k + 1) = max (topS σ x k) (oR σ k 2) from by show max _ (if _ then _ else _) = _; rw [n_26]; rfl]) | (rw [show topS σ x (k + 1) = topS σ x k from by show max _ (if _ then _ else _) = _; rw [n_26]; exact Nat.max_eq_left (Nat.zero_le _)])) ls (lv_sub hl [1, 2, 0, 3, 4] rfl)
        · have n_26 : x.testBit k = true := tb_t ((nI_eq (by omega) (by decide)).mp c_26)
          have hrk := hI.row (r := k) (by omega)
          refine lv_aload_n hx hb dX6_sumAnswer_29 rfl (lv_at hl 0 rfl) ?_
          refine va_get (D := Γ.1) (ci := 6) (v := .ref (a 1)) (C := RX6) (T := TX6) (N := 6) hx hb hts (by decide +kernel) hown hK hP 0 rfl rfl 0 (by decide) (hts (.fieldLink RX6 12 "RowVeils$State" "rows" "LRowVeils$Rows;") (by decide +kernel)) (fun _ h9 => h9) rfl dX6_sumAnswer_30 ?_
          refine va_get (D := Γ.1) (ci := 5) (v := .ref (a 6)) (C := RX5) (T := TX5) (N := 5) hx hb hts (by decide +kernel) hown hK hP 1 rfl rfl 2 (by decide) (hts (.fieldLink RX6 90 "RowVeils$Rows" "values" "LRowVeils$Numbers;") (by decide +kernel)) (fun _ h9 => h9) rfl dX6_sumAnswer_33 ?_
          refine lv_iload hx hb dX6_sumAnswer_36 (lv_at hl 2 rfl) ?_
          refine cRi (As := [.int (nI k)]) (rest := []) (m_X3_get l Γ (a 6) (a 7) 16 k (f 2) (by decide) (by omega)) S k_X3_get gX6_sumAnswer_X3_get rfl ⟨Nat.le_of_ble_eq_true rfl, Nat.le_of_ble_eq_true rfl⟩ hK hP [6, 7] rfl 0 (ci := 3) rfl rfl rfl rfl hl.1 (Nat.le_of_ble_eq_true rfl) rfl dX6_sumAnswer_38 ⟨Nat.le_of_ble_eq_true rfl, Nat.le_of_ble_eq_true rfl⟩ (fun r hr => ?_)
          subst hr
          refine asi (z := nI (oR σ k 2)) (hR.val (by omega)) ?_
          refine lv_istore (lv' := [(5, .int (nI (oR σ k 2))), (0, .ref (a 0)), (1, .int (nI x)), (4, .int (nI k)), (2, .int (nI (sumS σ x k))), (3, .int (nI (topS σ x k)))]) hx hb dX6_sumAnswer_41 hl (by decide) rfl (fun ls hl => ?_)
          refine lv_iload_n hx hb dX6_sumAnswer_43 rfl (lv_at hl 4 rfl) ?_
          refine lv_iload hx hb dX6_sumAnswer_44 (lv_at hl 0 rfl) ?_
          refine lv_iadd hx hb dX6_sumAnswer_46 ?_
          refine asi (z := nI ((sumS σ x k) + (oR σ k 2))) (nI_add _ _) ?_
          refine lv_istore_n (lv' := [(2, .int (nI ((sumS σ x k) + (oR σ k 2)))), (5, .int (nI (oR σ k 2))), (0, .ref (a 0)), (1, .int (nI x)), (4, .int (nI k)), (3, .int (nI (topS σ x k)))]) hx hb dX6_sumAnswer_47 rfl hl (by decide) rfl (fun ls hl => ?_)
          refine lv_iload_n hx hb dX6_sumAnswer_48 rfl (lv_at hl 5 rfl) ?_
          refine lv_iload hx hb dX6_sumAnswer_49 (lv_at hl 1 rfl) ?_
          have htk := topS_le hI x (n := k) (by omega)
          refine va_mmax hx hb (hml.trans hl.1.symm) hown (hts (.methodLink RX6 127 Lib.Math.max.name) (by decide +kernel)) (hts (.static Lib.Math.max.name) (by decide +kernel)) (hts (.initialized "java/lang/Math") (by decide +kernel)) (hts (.code Lib.Math.max.name Lib.Math.max.code 2 (some .int)) (by decide +kernel)) (Nat.le_of_ble_eq_true rfl) (Nat.le_of_ble_eq_true rfl) (Nat.le_of_ble_eq_true rfl) (Nat.le_of_ble_eq_true rfl) dX6_sumAnswer_51 ?_
          refine asi (z := nI (max (topS σ x k) (oR σ k 2))) (max_n (by omega) (by omega)) ?_
          refine lv_istore_n (lv' := [(3, .int (nI (max (topS σ x k) (oR σ k 2)))), (2, .int (nI ((sumS σ x k) + (oR σ k 2)))), (5, .int (nI (oR σ k 2))), (0, .ref (a 0)), (1, .int (nI x)), (4, .int (nI k))]) hx hb dX6_sumAnswer_54 rfl hl (by decide) rfl (fun ls hl => ?_)
          refine lv_iinc (v := nI (k + 1)) (lv' := [(4, .int (nI (k + 1))), (3, .int (nI (max (topS σ x k) (oR σ k 2)))), (2, .int (nI ((sumS σ x k) + (oR σ k 2)))), (5, .int (nI (oR σ k 2))), (0, .ref (a 0)), (1, .int (nI x))]) hx hb dX6_sumAnswer_55 hl (k := 5) rfl (nI_add _ _) (by decide) rfl (fun ls hl => ?_)
          refine lv_goto (tgt := 7) hx hb dX6_sumAnswer_58 (by decide) ?_
          exact ih_7 (k + 1) (nI ((sumS σ x k) + (oR σ k 2))) (nI (max (topS σ x k) (oR σ k 2))) (by omega) (by omega) (by first | (rw [show sumS σ x (k + 1) = sumS σ x k + oR σ k 2 from by show _ + (if _ then _ else _) = _; rw [n_26]; rfl]) | (rw [show sumS σ x (k + 1) = sumS σ x k from by show _ + (if _ then _ else _) = _; rw [n_26]; rfl])) (by first | (rw [show topS σ x (k + 1) = max (topS σ x k) (oR σ k 2) from by show max _ (if _ then _ else _) = _; rw [n_26]; rfl]) | (rw [show topS σ x (k + 1) = topS σ x k from by show max _ (if _ then _ else _) = _; rw [n_26]; exact Nat.max_eq_left (Nat.zero_le _)])) ls (lv_sub hl [4, 5, 0, 2, 1] rfl)
  refine lv_iconst (v := nI 0) hx hb dX6_sumAnswer_0 (by decide) ?_
  refine lv_istore_n (lv' := [(2, .int (nI 0)), (0, .ref (a 0)), (1, .int (nI x))]) hx hb dX6_sumAnswer_1 rfl hl (by decide) rfl (fun ls hl => ?_)
  refine lv_iconst (v := nI 0) hx hb dX6_sumAnswer_2 (by decide) ?_
  refine lv_istore_n (lv' := [(3, .int (nI 0)), (2, .int (nI 0)), (0, .ref (a 0)), (1, .int (nI x))]) hx hb dX6_sumAnswer_3 rfl hl (by decide) rfl (fun ls hl => ?_)
  refine lv_iconst (v := nI 0) hx hb dX6_sumAnswer_4 (by decide) ?_
  refine lv_istore (lv' := [(4, .int (nI 0)), (3, .int (nI 0)), (2, .int (nI 0)), (0, .ref (a 0)), (1, .int (nI x))]) hx hb dX6_sumAnswer_5 hl (by decide) rfl (fun ls hl => ?_)
  exact L_7 ((σ 0) + 1) 0 (nI 0) (nI 0) (by omega) (by omega) rfl rfl ls (lv_sub hl [3, 4, 0, 2, 1] rfl)


abbrev rm_X6_whoSees : Room := { frames := 2, cells := 0, slots := 0, locals := 48 }
theorem k_X6_whoSees : Cal yX6_whoSees wsX6_whoSees rm_X6_whoSees cX6_whoSees 4 (some .int) 1 0 0 := ⟨⟨_, rfl⟩, rfl, rfl, by decide +kernel⟩
set_option maxHeartbeats 4000000 in
set_option maxRecDepth 100000 in
theorem m_X6_whoSees (l : Launch) (Γ : Gm) (a : Nat → Nat) (f : Nat → Nat → Int32) (z : Nat → Int32) (σ : Nat → Nat) (hR : Rep σ f z) (hI : Inv σ) (q : Nat) (hq0 : q < σ 0) : MRi l yX6_whoSees wsX6_whoSees rm_X6_whoSees Γ (wSt Γ a f z) [.ref (a 0), .int (nI q)] (fun r => r = nI (seers σ q)) := by
  refine mR (cc := cX6_whoSees) (maxL := 4) (ret := (some .int)) (own := RX6) (by decide) rfl rfl (Nat.le_of_ble_eq_true rfl) ?_
  intro p e s m args below meth c S hrt hlk hK hP ls hl
  obtain ⟨hx, hb, hml, hown, hts⟩ := id S
  have hl : lv_has ls 4 [(0, .ref (a 0)), (1, .int (nI q))] := hl
  have hP : gP Γ (wSt Γ a f z) s.heap := hP
  have L_4 : ∀ (fuel : Nat), ∀ (k : Nat) (x2 : Int32) (hk : k ≤ 5) (hfk : 5 - k < fuel) (e_x2 : x2 = nI (bset (fun p => decide (vmk σ p q = 0)) k)), ∀ ls : Array Slot, lv_has ls 4 [(0, .ref (a 0)), (1, .int (nI q)), (3, .int (nI k)), (2, .int x2)] → W p l e rm_X6_whoSees s m args below meth c s.heap [] 0 0 (MQ below (vp_Si (fun r => r = nI (seers σ q))) args s 0 0 (fun _ => False)) (F0 m 4 ls []) := by
    intro fuel
    induction fuel with
    | zero => intro k x2 hk hfk e_x2; exact absurd hfk (by omega)
    | succ fuel ih_4 =>
      intro k x2 hk hfk e_x2 ls hl
      subst e_x2
      refine lv_iload_n hx hb dX6_whoSees_4 rfl (lv_at hl 2 rfl) ?_
      refine lv_iconst (v := nI 5) hx hb dX6_whoSees_5 (by decide) ?_
      refine lv_icmp_ge (tgt := 30) hx hb dX6_whoSees_6 (by decide) (fun c_6 => ?_) (fun c_6 => ?_)
      · have n_6 := (nI_leI (a := 5) (b := k) (by omega) (by omega)).mp c_6
        refine lv_iload_n hx hb dX6_whoSees_30 rfl (lv_at hl 3 rfl) ?_
        exact W.iret (v := nI (bset (fun p => decide (vmk σ p q = 0)) k)) hx hb hrt (fun t9 ht9 hW9 => ⟨_, rfl, by unfold seers; rw [show 5 = k from by omega], ht9⟩) (fun _ h9 => nomatch h9) dX6_whoSees_31 hlk
      · have n_6 := (not_congr (nI_leI (a := 5) (b := k) (by omega) (by omega))).mp c_6
        refine lv_aload_n hx hb dX6_whoSees_9 rfl (lv_at hl 0 rfl) ?_
        refine lv_iload_n hx hb dX6_whoSees_10 rfl (lv_at hl 2 rfl) ?_
        refine lv_iload_n hx hb dX6_whoSees_11 rfl (lv_at hl 1 rfl) ?_
        refine cRi (As := [.int (nI k), .int (nI q)]) (rest := []) (m_X6_veilMask l Γ a f z σ hR hI k q (by omega) hq0) S k_X6_veilMask gX6_whoSees_X6_veilMask rfl ⟨Nat.le_of_ble_eq_true rfl, Nat.le_of_ble_eq_true rfl⟩ hK hP [0, 1, 2, 3, 4, 5, 6, 7, 8, 9, 10, 11, 12, 13, 14, 15, 16, 17, 18, 19, 20, 21, 22, 23, 24, 25, 26, 27, 28] rfl 0 (ci := 6) rfl rfl rfl rfl hl.1 (Nat.le_of_ble_eq_true rfl) rfl dX6_whoSees_12 ⟨Nat.le_of_ble_eq_true rfl, Nat.le_of_ble_eq_true rfl⟩ (fun r hr => ?_)
        subst hr
        have hv := vmk_lt σ k q
        refine lv_if_ne (tgt := 24) hx hb dX6_whoSees_15 (by decide) (fun c_15 => ?_) (fun c_15 => ?_)
        · have n_15 := (not_congr (nI_eq (a := (vmk σ k q)) (b := 0) (by omega) (by omega))).mp c_15
          refine lv_iinc (v := nI (k + 1)) (lv' := [(3, .int (nI (k + 1))), (0, .ref (a 0)), (1, .int (nI q)), (2, .int (nI (bset (fun p => decide (vmk σ p q = 0)) k)))]) hx hb dX6_whoSees_24 hl (k := 2) rfl (nI_add _ _) (by decide) rfl (fun ls hl => ?_)
          refine lv_goto (tgt := 4) hx hb dX6_whoSees_27 (by decide) ?_
          exact ih_4 (k + 1) (nI (bset (fun p => decide (vmk σ p q = 0)) k)) (by omega) (by omega) (by first | exact bo_s (p := (fun p => decide (vmk σ p q = 0))) (by omega) (decide_eq_true n_15) | exact bo_f (p := (fun p => decide (vmk σ p q = 0))) (decide_eq_false n_15)) ls (lv_sub hl [1, 2, 0, 3] rfl)
        · have n_15 := (nI_eq (a := (vmk σ k q)) (b := 0) (by omega) (by omega)).mp c_15
          refine lv_iload_n hx hb dX6_whoSees_18 rfl (lv_at hl 3 rfl) ?_
          refine lv_iconst (v := nI 1) hx hb dX6_whoSees_19 (by decide) ?_
          refine lv_iload_n hx hb dX6_whoSees_20 rfl (lv_at hl 2 rfl) ?_
          refine lv_ishl hx hb dX6_whoSees_21 ?_
          refine lv_ior hx hb dX6_whoSees_22 ?_
          refine lv_istore_n (lv' := [(2, .int ((nI (bset (fun p => decide (vmk σ p q = 0)) k)) ||| ((nI 1) <<< ((nI k) &&& 31)))), (0, .ref (a 0)), (1, .int (nI q)), (3, .int (nI k))]) hx hb dX6_whoSees_23 rfl hl (by decide) rfl (fun ls hl => ?_)
          refine lv_iinc (v := nI (k + 1)) (lv' := [(3, .int (nI (k + 1))), (2, .int ((nI (bset (fun p => decide (vmk σ p q = 0)) k)) ||| ((nI 1) <<< ((nI k) &&& 31)))), (0, .ref (a 0)), (1, .int (nI q))]) hx hb dX6_whoSees_24 hl (k := 3) rfl (nI_add _ _) (by decide) rfl (fun ls hl => ?_)
          refine lv_goto (tgt := 4) hx hb dX6_whoSees_27 (by decide) ?_
          exact ih_4 (k + 1) ((nI (bset (fun p => decide (vmk σ p q = 0)) k)) ||| ((nI 1) <<< ((nI k) &&& 31))) (by omega) (by omega) (by first | exact bo_s (p := (fun p => decide (vmk σ p q = 0))) (by omega) (decide_eq_true n_15) | exact bo_f (p := (fun p => decide (vmk σ p q = 0))) (decide_eq_false n_15)) ls (lv_sub hl [2, 3, 0, 1] rfl)
  refine lv_iconst (v := nI 0) hx hb dX6_whoSees_0 (by decide) ?_
  refine lv_istore_n (lv' := [(2, .int (nI 0)), (0, .ref (a 0)), (1, .int (nI q))]) hx hb dX6_whoSees_1 rfl hl (by decide) rfl (fun ls hl => ?_)
  refine lv_iconst (v := nI 0) hx hb dX6_whoSees_2 (by decide) ?_
  refine lv_istore_n (lv' := [(3, .int (nI 0)), (2, .int (nI 0)), (0, .ref (a 0)), (1, .int (nI q))]) hx hb dX6_whoSees_3 rfl hl (by decide) rfl (fun ls hl => ?_)
  exact L_4 (5 + 1) 0 (nI 0) (by omega) (by omega) rfl ls (lv_sub hl [2, 3, 0, 1] rfl)

abbrev rm_X6_rowNumber : Room := { frames := 3, cells := 0, slots := 0, locals := 71 }
theorem k_X6_rowNumber : Cal yX6_rowNumber wsX6_rowNumber rm_X6_rowNumber cX6_rowNumber 3 (some .int) 2 0 0 := ⟨⟨_, rfl⟩, rfl, rfl, by decide +kernel⟩
set_option maxHeartbeats 4000000 in
set_option maxRecDepth 100000 in
theorem m_X6_rowNumber (l : Launch) (Γ : Gm) (a : Nat → Nat) (f : Nat → Nat → Int32) (z : Nat → Int32) (σ : Nat → Nat) (hR : Rep σ f z) (hI : Inv σ) (q w : Nat) (hq0 : q < σ 0) (hw : w < 5) : MRi l yX6_rowNumber wsX6_rowNumber rm_X6_rowNumber Γ (wSt Γ a f z) [.ref (a 0), .int (nI q), .int (nI w)] (fun r => r = nI (rowN σ q w)) := by
  refine mR (cc := cX6_rowNumber) (maxL := 3) (ret := (some .int)) (own := RX6) (by decide) rfl rfl (Nat.le_of_ble_eq_true rfl) ?_
  intro p e s m args below meth c S hrt hlk hK hP ls hl
  obtain ⟨hx, hb, hml, hown, hts⟩ := id S
  have hn := hI.n
  have hl : lv_has ls 3 [(0, .ref (a 0)), (1, .int (nI q)), (2, .int (nI w))] := hl
  have hP : gP Γ (wSt Γ a f z) s.heap := hP
  refine lv_iload_n hx hb dX6_rowNumber_0 rfl (lv_at hl 2 rfl) ?_
  rcases (by omega : w = 0 ∨ w = 1 ∨ w = 2 ∨ w = 3 ∨ w = 4) with rfl | rfl | rfl | rfl | rfl
  · refine lv_tableIn (off := 31) (tgt := 32) hx hb dX6_rowNumber_1 (by decide) (by decide) (by decide) (by decide) ?_
    refine lv_aload_n hx hb dX6_rowNumber_32 rfl (lv_at hl 0 rfl) ?_
    refine va_get (D := Γ.1) (ci := 6) (v := .ref (a 1)) (C := RX6) (T := TX6) (N := 6) hx hb hts (by decide +kernel) hown hK hP 0 rfl rfl 0 (by decide) (hts (.fieldLink RX6 12 "RowVeils$State" "rows" "LRowVeils$Rows;") (by decide +kernel)) (fun _ h9 => h9) rfl dX6_rowNumber_33 ?_
    refine va_get (D := Γ.1) (ci := 5) (v := .ref (a 2)) (C := RX5) (T := TX5) (N := 5) hx hb hts (by decide +kernel) hown hK hP 1 rfl rfl 0 (by decide) (hts (.fieldLink RX6 71 "RowVeils$Rows" "owners" "LRowVeils$Numbers;") (by decide +kernel)) (fun _ h9 => h9) rfl dX6_rowNumber_36 ?_
    refine lv_iload_n hx hb dX6_rowNumber_39 rfl (lv_at hl 1 rfl) ?_
    refine cRi (As := [.int (nI q)]) (rest := []) (m_X3_get l Γ (a 2) (a 3) 16 q (f 0) (by decide) (by omega)) S k_X3_get gX6_rowNumber_X3_get rfl ⟨Nat.le_of_ble_eq_true rfl, Nat.le_of_ble_eq_true rfl⟩ hK hP [2, 3] rfl 0 (ci := 3) rfl rfl rfl rfl hl.1 (Nat.le_of_ble_eq_true rfl) rfl dX6_rowNumber_40 ⟨Nat.le_of_ble_eq_true rfl, Nat.le_of_ble_eq_true rfl⟩ (fun r hr => ?_)
    subst hr
    refine asi (z := nI (oR σ q 0)) (hR.own (by omega)) ?_
    exact W.iret (v := nI (oR σ q 0)) hx hb hrt (fun t9 ht9 hW9 => ⟨_, rfl, rfl, ht9⟩) (fun _ h9 => nomatch h9) dX6_rowNumber_43 hlk
  · refine lv_tableIn (off := 43) (tgt := 44) hx hb dX6_rowNumber_1 (by decide) (by decide) (by decide) (by decide) ?_
    refine lv_aload_n hx hb dX6_rowNumber_44 rfl (lv_at hl 0 rfl) ?_
    refine va_get (D := Γ.1) (ci := 6) (v := .ref (a 1)) (C := RX6) (T := TX6) (N := 6) hx hb hts (by decide +kernel) hown hK hP 0 rfl rfl 0 (by decide) (hts (.fieldLink RX6 12 "RowVeils$State" "rows" "LRowVeils$Rows;") (by decide +kernel)) (fun _ h9 => h9) rfl dX6_rowNumber_45 ?_
    refine va_get (D := Γ.1) (ci := 5) (v := .ref (a 4)) (C := RX5) (T := TX5) (N := 5) hx hb hts (by decide +kernel) hown hK hP 1 rfl rfl 1 (by decide) (hts (.fieldLink RX6 84 "RowVeils$Rows" "places" "LRowVeils$Numbers;") (by decide +kernel)) (fun _ h9 => h9) rfl dX6_rowNumber_48 ?_
    refine lv_iload_n hx hb dX6_rowNumber_51 rfl (lv_at hl 1 rfl) ?_
    refine cRi (As := [.int (nI q)]) (rest := []) (m_X3_get l Γ (a 4) (a 5) 16 q (f 1) (by decide) (by omega)) S k_X3_get gX6_rowNumber_X3_get rfl ⟨Nat.le_of_ble_eq_true rfl, Nat.le_of_ble_eq_true rfl⟩ hK hP [4, 5] rfl 0 (ci := 3) rfl rfl rfl rfl hl.1 (Nat.le_of_ble_eq_true rfl) rfl dX6_rowNumber_52 ⟨Nat.le_of_ble_eq_true rfl, Nat.le_of_ble_eq_true rfl⟩ (fun r hr => ?_)
    subst hr
    refine asi (z := nI (oR σ q 1)) (hR.pla (by omega)) ?_
    exact W.iret (v := nI (oR σ q 1)) hx hb hrt (fun t9 ht9 hW9 => ⟨_, rfl, rfl, ht9⟩) (fun _ h9 => nomatch h9) dX6_rowNumber_55 hlk
  · refine lv_tableIn (off := 55) (tgt := 56) hx hb dX6_rowNumber_1 (by decide) (by decide) (by decide) (by decide) ?_
    refine lv_aload_n hx hb dX6_rowNumber_56 rfl (lv_at hl 0 rfl) ?_
    refine va_get (D := Γ.1) (ci := 6) (v := .ref (a 1)) (C := RX6) (T := TX6) (N := 6) hx hb hts (by decide +kernel) hown hK hP 0 rfl rfl 0 (by decide) (hts (.fieldLink RX6 12 "RowVeils$State" "rows" "LRowVeils$Rows;") (by decide +kernel)) (fun _ h9 => h9) rfl dX6_rowNumber_57 ?_
    refine va_get (D := Γ.1) (ci := 5) (v := .ref (a 6)) (C := RX5) (T := TX5) (N := 5) hx hb hts (by decide +kernel) hown hK hP 1 rfl rfl 2 (by decide) (hts (.fieldLink RX6 90 "RowVeils$Rows" "values" "LRowVeils$Numbers;") (by decide +kernel)) (fun _ h9 => h9) rfl dX6_rowNumber_60 ?_
    refine lv_iload_n hx hb dX6_rowNumber_63 rfl (lv_at hl 1 rfl) ?_
    refine cRi (As := [.int (nI q)]) (rest := []) (m_X3_get l Γ (a 6) (a 7) 16 q (f 2) (by decide) (by omega)) S k_X3_get gX6_rowNumber_X3_get rfl ⟨Nat.le_of_ble_eq_true rfl, Nat.le_of_ble_eq_true rfl⟩ hK hP [6, 7] rfl 0 (ci := 3) rfl rfl rfl rfl hl.1 (Nat.le_of_ble_eq_true rfl) rfl dX6_rowNumber_64 ⟨Nat.le_of_ble_eq_true rfl, Nat.le_of_ble_eq_true rfl⟩ (fun r hr => ?_)
    subst hr
    refine asi (z := nI (oR σ q 2)) (hR.val (by omega)) ?_
    exact W.iret (v := nI (oR σ q 2)) hx hb hrt (fun t9 ht9 hW9 => ⟨_, rfl, rfl, ht9⟩) (fun _ h9 => nomatch h9) dX6_rowNumber_67 hlk
  · refine lv_tableIn (off := 67) (tgt := 68) hx hb dX6_rowNumber_1 (by decide) (by decide) (by decide) (by decide) ?_
    refine lv_aload_n hx hb dX6_rowNumber_68 rfl (lv_at hl 0 rfl) ?_
    refine va_get (D := Γ.1) (ci := 6) (v := .ref (a 1)) (C := RX6) (T := TX6) (N := 6) hx hb hts (by decide +kernel) hown hK hP 0 rfl rfl 0 (by decide) (hts (.fieldLink RX6 12 "RowVeils$State" "rows" "LRowVeils$Rows;") (by decide +kernel)) (fun _ h9 => h9) rfl dX6_rowNumber_69 ?_
    refine va_get (D := Γ.1) (ci := 5) (v := .ref (a 8)) (C := RX5) (T := TX5) (N := 5) hx hb hts (by decide +kernel) hown hK hP 1 rfl rfl 3 (by decide) (hts (.fieldLink RX6 78 "RowVeils$Rows" "secrecies" "LRowVeils$Numbers;") (by decide +kernel)) (fun _ h9 => h9) rfl dX6_rowNumber_72 ?_
    refine lv_iload_n hx hb dX6_rowNumber_75 rfl (lv_at hl 1 rfl) ?_
    refine cRi (As := [.int (nI q)]) (rest := []) (m_X3_get l Γ (a 8) (a 9) 16 q (f 3) (by decide) (by omega)) S k_X3_get gX6_rowNumber_X3_get rfl ⟨Nat.le_of_ble_eq_true rfl, Nat.le_of_ble_eq_true rfl⟩ hK hP [8, 9] rfl 0 (ci := 3) rfl rfl rfl rfl hl.1 (Nat.le_of_ble_eq_true rfl) rfl dX6_rowNumber_76 ⟨Nat.le_of_ble_eq_true rfl, Nat.le_of_ble_eq_true rfl⟩ (fun r hr => ?_)
    subst hr
    refine asi (z := nI (oR σ q 3)) (hR.sec (by omega)) ?_
    exact W.iret (v := nI (oR σ q 3)) hx hb hrt (fun t9 ht9 hW9 => ⟨_, rfl, rfl, ht9⟩) (fun _ h9 => nomatch h9) dX6_rowNumber_79 hlk
  · refine lv_tableOut (tgt := 80) hx hb dX6_rowNumber_1 (by decide) (by decide) ?_
    refine lv_aload_n hx hb dX6_rowNumber_80 rfl (lv_at hl 0 rfl) ?_
    refine lv_iload_n hx hb dX6_rowNumber_81 rfl (lv_at hl 1 rfl) ?_
    refine cRi (As := [.int (nI q)]) (rest := []) (m_X6_whoSees l Γ a f z σ hR hI q hq0) S k_X6_whoSees gX6_rowNumber_X6_whoSees rfl ⟨Nat.le_of_ble_eq_true rfl, Nat.le_of_ble_eq_true rfl⟩ hK hP [0, 1, 2, 3, 4, 5, 6, 7, 8, 9, 10, 11, 12, 13, 14, 15, 16, 17, 18, 19, 20, 21, 22, 23, 24, 25, 26, 27, 28] rfl 0 (ci := 6) rfl rfl rfl rfl hl.1 (Nat.le_of_ble_eq_true rfl) rfl dX6_rowNumber_82 ⟨Nat.le_of_ble_eq_true rfl, Nat.le_of_ble_eq_true rfl⟩ (fun r hr => ?_)
    subst hr
    exact W.iret (v := nI (seers σ q)) hx hb hrt (fun t9 ht9 hW9 => ⟨_, rfl, rfl, ht9⟩) (fun _ h9 => nomatch h9) dX6_rowNumber_85 hlk

abbrev rm_X6_personNumber : Room := { frames := 4, cells := 0, slots := 0, locals := 95 }
theorem k_X6_personNumber : Cal yX6_personNumber wsX6_personNumber rm_X6_personNumber cX6_personNumber 3 (some .int) 2 0 0 := ⟨⟨_, rfl⟩, rfl, rfl, by decide +kernel⟩
set_option maxHeartbeats 4000000 in
set_option maxRecDepth 100000 in
theorem m_X6_personNumber (l : Launch) (Γ : Gm) (a : Nat → Nat) (f : Nat → Nat → Int32) (z : Nat → Int32) (σ : Nat → Nat) (hR : Rep σ f z) (hI : Inv σ) (p0 w : Nat) (hp : p0 < 5) (hw : w < 8) : MRi l yX6_personNumber wsX6_personNumber rm_X6_personNumber Γ (wSt Γ a f z) [.ref (a 0), .int (nI p0), .int (nI w)] (fun r => r = perN σ p0 w) := by
  refine mR (cc := cX6_personNumber) (maxL := 3) (ret := (some .int)) (own := RX6) (by decide) rfl rfl (Nat.le_of_ble_eq_true rfl) ?_
  intro p e s m args below meth c S hrt hlk hK hP ls hl
  obtain ⟨hx, hb, hml, hown, hts⟩ := id S
  have hl : lv_has ls 3 [(0, .ref (a 0)), (1, .int (nI p0)), (2, .int (nI w))] := hl
  have hP : gP Γ (wSt Γ a f z) s.heap := hP
  refine lv_iload_n hx hb dX6_personNumber_0 rfl (lv_at hl 2 rfl) ?_
  rcases (by omega : w = 0 ∨ w = 1 ∨ w = 2 ∨ w = 3 ∨ w = 4 ∨ w = 5 ∨ w = 6 ∨ w = 7) with rfl | rfl | rfl | rfl | rfl | rfl | rfl | rfl
  · refine lv_tableIn (off := 43) (tgt := 44) hx hb dX6_personNumber_1 (by decide) (by decide) (by decide) (by decide) ?_
    refine lv_aload_n hx hb dX6_personNumber_44 rfl (lv_at hl 0 rfl) ?_
    refine va_get (D := Γ.1) (ci := 6) (v := .ref (a 10)) (C := RX6) (T := TX6) (N := 6) hx hb hts (by decide +kernel) hown hK hP 0 rfl rfl 1 (by decide) (hts (.fieldLink RX6 21 "RowVeils$State" "people" "LRowVeils$People;") (by decide +kernel)) (fun _ h9 => h9) rfl dX6_personNumber_45 ?_
    refine va_get (D := Γ.1) (ci := 4) (v := .ref (a 11)) (C := RX4) (T := TX4) (N := 3) hx hb hts (by decide +kernel) hown hK hP 10 rfl rfl 0 (by decide) (hts (.fieldLink RX6 81 "RowVeils$People" "ranks" "LRowVeils$Numbers;") (by decide +kernel)) (fun _ h9 => h9) rfl dX6_personNumber_48 ?_
    refine lv_iload_n hx hb dX6_personNumber_51 rfl (lv_at hl 1 rfl) ?_
    refine cRi (As := [.int (nI p0)]) (rest := []) (m_X3_get l Γ (a 11) (a 12) 5 p0 (f 4) (by decide) (by omega)) S k_X3_get gX6_personNumber_X3_get rfl ⟨Nat.le_of_ble_eq_true rfl, Nat.le_of_ble_eq_true rfl⟩ hK hP [11, 12] rfl 0 (ci := 3) rfl rfl rfl rfl hl.1 (Nat.le_of_ble_eq_true rfl) rfl dX6_personNumber_52 ⟨Nat.le_of_ble_eq_true rfl, Nat.le_of_ble_eq_true rfl⟩ (fun r hr => ?_)
    subst hr
    refine asi (z := nI (oP σ p0 0)) (hR.rank (by omega)) ?_
    exact W.iret (v := nI (oP σ p0 0)) hx hb hrt (fun t9 ht9 hW9 => ⟨_, rfl, rfl, ht9⟩) (fun _ h9 => nomatch h9) dX6_personNumber_55 hlk
  · refine lv_tableIn (off := 55) (tgt := 56) hx hb dX6_personNumber_1 (by decide) (by decide) (by decide) (by decide) ?_
    refine lv_aload_n hx hb dX6_personNumber_56 rfl (lv_at hl 0 rfl) ?_
    refine va_get (D := Γ.1) (ci := 6) (v := .ref (a 10)) (C := RX6) (T := TX6) (N := 6) hx hb hts (by decide +kernel) hown hK hP 0 rfl rfl 1 (by decide) (hts (.fieldLink RX6 21 "RowVeils$State" "people" "LRowVeils$People;") (by decide +kernel)) (fun _ h9 => h9) rfl dX6_personNumber_57 ?_
    refine va_get (D := Γ.1) (ci := 4) (v := .ref (a 13)) (C := RX4) (T := TX4) (N := 3) hx hb hts (by decide +kernel) hown hK hP 10 rfl rfl 1 (by decide) (hts (.fieldLink RX6 87 "RowVeils$People" "homes" "LRowVeils$Numbers;") (by decide +kernel)) (fun _ h9 => h9) rfl dX6_personNumber_60 ?_
    refine lv_iload_n hx hb dX6_personNumber_63 rfl (lv_at hl 1 rfl) ?_
    refine cRi (As := [.int (nI p0)]) (rest := []) (m_X3_get l Γ (a 13) (a 14) 5 p0 (f 5) (by decide) (by omega)) S k_X3_get gX6_personNumber_X3_get rfl ⟨Nat.le_of_ble_eq_true rfl, Nat.le_of_ble_eq_true rfl⟩ hK hP [13, 14] rfl 0 (ci := 3) rfl rfl rfl rfl hl.1 (Nat.le_of_ble_eq_true rfl) rfl dX6_personNumber_64 ⟨Nat.le_of_ble_eq_true rfl, Nat.le_of_ble_eq_true rfl⟩ (fun r hr => ?_)
    subst hr
    refine asi (z := nI (oP σ p0 1)) (hR.home (by omega)) ?_
    exact W.iret (v := nI (oP σ p0 1)) hx hb hrt (fun t9 ht9 hW9 => ⟨_, rfl, rfl, ht9⟩) (fun _ h9 => nomatch h9) dX6_personNumber_67 hlk
  · refine lv_tableIn (off := 67) (tgt := 68) hx hb dX6_personNumber_1 (by decide) (by decide) (by decide) (by decide) ?_
    refine lv_aload_n hx hb dX6_personNumber_68 rfl (lv_at hl 0 rfl) ?_
    refine va_get (D := Γ.1) (ci := 6) (v := .ref (a 10)) (C := RX6) (T := TX6) (N := 6) hx hb hts (by decide +kernel) hown hK hP 0 rfl rfl 1 (by decide) (hts (.fieldLink RX6 21 "RowVeils$State" "people" "LRowVeils$People;") (by decide +kernel)) (fun _ h9 => h9) rfl dX6_personNumber_69 ?_
    refine va_get (D := Γ.1) (ci := 4) (v := .ref (a 15)) (C := RX4) (T := TX4) (N := 3) hx hb hts (by decide +kernel) hown hK hP 10 rfl rfl 2 (by decide) (hts (.fieldLink RX6 93 "RowVeils$People" "masters" "LRowVeils$Numbers;") (by decide +kernel)) (fun _ h9 => h9) rfl dX6_personNumber_72 ?_
    refine lv_iload_n hx hb dX6_personNumber_75 rfl (lv_at hl 1 rfl) ?_
    refine cRi (As := [.int (nI p0)]) (rest := []) (m_X3_get l Γ (a 15) (a 16) 5 p0 (f 6) (by decide) (by omega)) S k_X3_get gX6_personNumber_X3_get rfl ⟨Nat.le_of_ble_eq_true rfl, Nat.le_of_ble_eq_true rfl⟩ hK hP [15, 16] rfl 0 (ci := 3) rfl rfl rfl rfl hl.1 (Nat.le_of_ble_eq_true rfl) rfl dX6_personNumber_76 ⟨Nat.le_of_ble_eq_true rfl, Nat.le_of_ble_eq_true rfl⟩ (fun r hr => ?_)
    subst hr
    refine asi (z := mI (oP σ p0 2)) (hR.master (by omega)) ?_
    exact W.iret (v := mI (oP σ p0 2)) hx hb hrt (fun t9 ht9 hW9 => ⟨_, rfl, rfl, ht9⟩) (fun _ h9 => nomatch h9) dX6_personNumber_79 hlk
  · refine lv_tableIn (off := 79) (tgt := 80) hx hb dX6_personNumber_1 (by decide) (by decide) (by decide) (by decide) ?_
    refine lv_aload_n hx hb dX6_personNumber_80 rfl (lv_at hl 0 rfl) ?_
    refine lv_iload_n hx hb dX6_personNumber_81 rfl (lv_at hl 1 rfl) ?_
    refine cRi (As := [.int (nI p0)]) (rest := []) (m_X6_allSeen l Γ a f z σ hR hI p0 hp) S k_X6_allSeen gX6_personNumber_X6_allSeen rfl ⟨Nat.le_of_ble_eq_true rfl, Nat.le_of_ble_eq_true rfl⟩ hK hP [0, 1, 2, 3, 4, 5, 6, 7, 8, 9, 10, 11, 12, 13, 14, 15, 16, 17, 18, 19, 20, 21, 22, 23, 24, 25, 26, 27, 28] rfl 0 (ci := 6) rfl rfl rfl rfl hl.1 (Nat.le_of_ble_eq_true rfl) rfl dX6_personNumber_82 ⟨Nat.le_of_ble_eq_true rfl, Nat.le_of_ble_eq_true rfl⟩ (fun r hr => ?_)
    subst hr
    refine cSi (As := [.int (nI (sAll σ p0))]) (rest := []) (m_J6_bitCount_0f7a4 l (nI (sAll σ p0))) S k_J6_bitCount_0f7a4 gX6_personNumber_J6_bitCount_0f7a4 ⟨Nat.le_of_ble_eq_true rfl, Nat.le_of_ble_eq_true rfl⟩ rfl hl.1 (Nat.le_of_ble_eq_true rfl) rfl dX6_personNumber_85 ⟨Nat.le_of_ble_eq_true rfl, Nat.le_of_ble_eq_true rfl⟩ (fun r hr => ?_)
    subst hr
    refine asi (z := nI (ones (sAll σ p0))) (bc_ones (seenQ_lt hI _ _ _ _)) ?_
    exact W.iret (v := nI (ones (sAll σ p0))) hx hb hrt (fun t9 ht9 hW9 => ⟨_, rfl, rfl, ht9⟩) (fun _ h9 => nomatch h9) dX6_personNumber_88 hlk
  · refine lv_tableIn (off := 88) (tgt := 89) hx hb dX6_personNumber_1 (by decide) (by decide) (by decide) (by decide) ?_
    refine lv_aload_n hx hb dX6_personNumber_89 rfl (lv_at hl 0 rfl) ?_
    refine lv_iload_n hx hb dX6_personNumber_90 rfl (lv_at hl 1 rfl) ?_
    refine cRi (As := [.int (nI p0)]) (rest := []) (m_X6_allSeen l Γ a f z σ hR hI p0 hp) S k_X6_allSeen gX6_personNumber_X6_allSeen rfl ⟨Nat.le_of_ble_eq_true rfl, Nat.le_of_ble_eq_true rfl⟩ hK hP [0, 1, 2, 3, 4, 5, 6, 7, 8, 9, 10, 11, 12, 13, 14, 15, 16, 17, 18, 19, 20, 21, 22, 23, 24, 25, 26, 27, 28] rfl 0 (ci := 6) rfl rfl rfl rfl hl.1 (Nat.le_of_ble_eq_true rfl) rfl dX6_personNumber_91 ⟨Nat.le_of_ble_eq_true rfl, Nat.le_of_ble_eq_true rfl⟩ (fun r hr => ?_)
    subst hr
    exact W.iret (v := nI (sAll σ p0)) hx hb hrt (fun t9 ht9 hW9 => ⟨_, rfl, rfl, ht9⟩) (fun _ h9 => nomatch h9) dX6_personNumber_94 hlk
  · refine lv_tableIn (off := 94) (tgt := 95) hx hb dX6_personNumber_1 (by decide) (by decide) (by decide) (by decide) ?_
    refine lv_aload_n hx hb dX6_personNumber_95 rfl (lv_at hl 0 rfl) ?_
    refine va_get (D := Γ.1) (ci := 6) (v := .ref (a 17)) (C := RX6) (T := TX6) (N := 6) hx hb hts (by decide +kernel) hown hK hP 0 rfl rfl 2 (by decide) (hts (.fieldLink RX6 28 "RowVeils$State" "memory" "LRowVeils$Memory;") (by decide +kernel)) (fun _ h9 => h9) rfl dX6_personNumber_96 ?_
    refine va_get (D := Γ.1) (ci := 2) (v := .ref (a 20)) (C := RX2) (T := TX2) (N := 2) hx hb hts (by decide +kernel) hown hK hP 17 rfl rfl 1 (by decide) (hts (.fieldLink RX6 142 "RowVeils$Memory" "kept" "LRowVeils$Numbers;") (by decide +kernel)) (fun _ h9 => h9) rfl dX6_personNumber_99 ?_
    refine lv_iload_n hx hb dX6_personNumber_102 rfl (lv_at hl 1 rfl) ?_
    refine cRi (As := [.int (nI p0)]) (rest := []) (m_X3_get l Γ (a 20) (a 21) 5 p0 (f 8) (by decide) (by omega)) S k_X3_get gX6_personNumber_X3_get rfl ⟨Nat.le_of_ble_eq_true rfl, Nat.le_of_ble_eq_true rfl⟩ hK hP [20, 21] rfl 0 (ci := 3) rfl rfl rfl rfl hl.1 (Nat.le_of_ble_eq_true rfl) rfl dX6_personNumber_103 ⟨Nat.le_of_ble_eq_true rfl, Nat.le_of_ble_eq_true rfl⟩ (fun r hr => ?_)
    subst hr
    refine asi (z := nI (oK σ p0)) (hR.kept (by omega)) ?_
    exact W.iret (v := nI (oK σ p0)) hx hb hrt (fun t9 ht9 hW9 => ⟨_, rfl, rfl, ht9⟩) (fun _ h9 => nomatch h9) dX6_personNumber_106 hlk
  · refine lv_tableIn (off := 106) (tgt := 107) hx hb dX6_personNumber_1 (by decide) (by decide) (by decide) (by decide) ?_
    refine lv_aload_n hx hb dX6_personNumber_107 rfl (lv_at hl 0 rfl) ?_
    refine va_get (D := Γ.1) (ci := 6) (v := .ref (a 22)) (C := RX6) (T := TX6) (N := 6) hx hb hts (by decide +kernel) hown hK hP 0 rfl rfl 3 (by decide) (hts (.fieldLink RX6 35 "RowVeils$State" "tallies" "LRowVeils$Tallies;") (by decide +kernel)) (fun _ h9 => h9) rfl dX6_personNumber_108 ?_
    refine va_get (D := Γ.1) (ci := 7) (v := .ref (a 23)) (C := RX7) (T := TX7) (N := 3) hx hb hts (by decide +kernel) hown hK hP 22 rfl rfl 0 (by decide) (hts (.fieldLink RX6 145 "RowVeils$Tallies" "answers" "LRowVeils$Numbers;") (by decide +kernel)) (fun _ h9 => h9) rfl dX6_personNumber_111 ?_
    refine lv_iload_n hx hb dX6_personNumber_114 rfl (lv_at hl 1 rfl) ?_
    refine cRi (As := [.int (nI p0)]) (rest := []) (m_X3_get l Γ (a 23) (a 24) 5 p0 (f 9) (by decide) (by omega)) S k_X3_get gX6_personNumber_X3_get rfl ⟨Nat.le_of_ble_eq_true rfl, Nat.le_of_ble_eq_true rfl⟩ hK hP [23, 24] rfl 0 (ci := 3) rfl rfl rfl rfl hl.1 (Nat.le_of_ble_eq_true rfl) rfl dX6_personNumber_115 ⟨Nat.le_of_ble_eq_true rfl, Nat.le_of_ble_eq_true rfl⟩ (fun r hr => ?_)
    subst hr
    refine asi (z := nI (oP σ p0 3)) (hR.asked (by omega)) ?_
    exact W.iret (v := nI (oP σ p0 3)) hx hb hrt (fun t9 ht9 hW9 => ⟨_, rfl, rfl, ht9⟩) (fun _ h9 => nomatch h9) dX6_personNumber_118 hlk
  · refine lv_tableOut (tgt := 119) hx hb dX6_personNumber_1 (by decide) (by decide) ?_
    refine lv_aload_n hx hb dX6_personNumber_119 rfl (lv_at hl 0 rfl) ?_
    refine va_get (D := Γ.1) (ci := 6) (v := .ref (a 22)) (C := RX6) (T := TX6) (N := 6) hx hb hts (by decide +kernel) hown hK hP 0 rfl rfl 3 (by decide) (hts (.fieldLink RX6 35 "RowVeils$State" "tallies" "LRowVeils$Tallies;") (by decide +kernel)) (fun _ h9 => h9) rfl dX6_personNumber_120 ?_
    refine va_get (D := Γ.1) (ci := 7) (v := .ref (a 25)) (C := RX7) (T := TX7) (N := 3) hx hb hts (by decide +kernel) hown hK hP 22 rfl rfl 1 (by decide) (hts (.fieldLink RX6 148 "RowVeils$Tallies" "refusals" "LRowVeils$Numbers;") (by decide +kernel)) (fun _ h9 => h9) rfl dX6_personNumber_123 ?_
    refine lv_iload_n hx hb dX6_personNumber_126 rfl (lv_at hl 1 rfl) ?_
    refine cRi (As := [.int (nI p0)]) (rest := []) (m_X3_get l Γ (a 25) (a 26) 5 p0 (f 10) (by decide) (by omega)) S k_X3_get gX6_personNumber_X3_get rfl ⟨Nat.le_of_ble_eq_true rfl, Nat.le_of_ble_eq_true rfl⟩ hK hP [25, 26] rfl 0 (ci := 3) rfl rfl rfl rfl hl.1 (Nat.le_of_ble_eq_true rfl) rfl dX6_personNumber_127 ⟨Nat.le_of_ble_eq_true rfl, Nat.le_of_ble_eq_true rfl⟩ (fun r hr => ?_)
    subst hr
    refine asi (z := nI (oP σ p0 4)) (hR.refused (by omega)) ?_
    exact W.iret (v := nI (oP σ p0 4)) hx hb hrt (fun t9 ht9 hW9 => ⟨_, rfl, rfl, ht9⟩) (fun _ h9 => nomatch h9) dX6_personNumber_130 hlk

abbrev rm_X6_hiddenByAlone : Room := { frames := 2, cells := 0, slots := 0, locals := 48 }
theorem k_X6_hiddenByAlone : Cal yX6_hiddenByAlone wsX6_hiddenByAlone rm_X6_hiddenByAlone cX6_hiddenByAlone 5 (some .int) 1 0 0 := ⟨⟨_, rfl⟩, rfl, rfl, by decide +kernel⟩
set_option maxHeartbeats 4000000 in
set_option maxRecDepth 100000 in
theorem m_X6_hiddenByAlone (l : Launch) (Γ : Gm) (a : Nat → Nat) (f : Nat → Nat → Int32) (z : Nat → Int32) (σ : Nat → Nat) (hR : Rep σ f z) (hI : Inv σ) (rule : Nat) (hr4 : rule < 4) : MRi l yX6_hiddenByAlone wsX6_hiddenByAlone rm_X6_hiddenByAlone Γ (wSt Γ a f z) [.ref (a 0), .int (nI rule)] (fun r => r = nI (hidQ σ rule)) := by
  refine mR (cc := cX6_hiddenByAlone) (maxL := 5) (ret := (some .int)) (own := RX6) (by decide) rfl rfl (Nat.le_of_ble_eq_true rfl) ?_
  intro p e s m args below meth c S hrt hlk hK hP ls hl
  obtain ⟨hx, hb, hml, hown, hts⟩ := id S
  have hn := hI.n
  have h8 : 2 ^ rule ≤ 2 ^ 3 := Nat.pow_le_pow_right (by decide) (by omega)
  have hl : lv_has ls 5 [(0, .ref (a 0)), (1, .int (nI rule))] := hl
  have hP : gP Γ (wSt Γ a f z) s.heap := hP
  have L_4 : ∀ (fuel : Nat), ∀ (k : Nat) (x2 : Int32) (hk : k ≤ 5) (hfk : 5 - k < fuel) (e_x2 : x2 = nI (prsR (fun p r => decide (vmk σ p r = 2 ^ rule)) (σ 0) k)), ∀ ls : Array Slot, lv_has ls 5 [(0, .ref (a 0)), (1, .int (nI rule)), (3, .int (nI k)), (2, .int x2)] → W p l e rm_X6_hiddenByAlone s m args below meth c s.heap [] 0 0 (MQ below (vp_Si (fun r => r = nI (hidQ σ rule))) args s 0 0 (fun _ => False)) (F0 m 4 ls []) := by
    intro fuel
    induction fuel with
    | zero => intro k x2 hk hfk e_x2; exact absurd hfk (by omega)
    | succ fuel ih_4 =>
      intro k x2 hk hfk e_x2 ls hl
      subst e_x2
      have L_12 : ∀ (fuel : Nat), ∀ (j : Nat) (y2 : Int32) (hj : j ≤ σ 0) (hfj : σ 0 - j < fuel) (e_y2 : y2 = nI (prsR (fun p r => decide (vmk σ p r = 2 ^ rule)) (σ 0) k + cnt ((fun p r => decide (vmk σ p r = 2 ^ rule)) k) j)) (n_6 : ¬ 5 ≤ k), ∀ ls : Array Slot, lv_has ls 5 [(0, .ref (a 0)), (1, .int (nI rule)), (3, .int (nI k)), (4, .int (nI j)), (2, .int y2)] → W p l e rm_X6_hiddenByAlone s m args below meth c s.heap [] 0 0 (MQ below (vp_Si (fun r => r = nI (hidQ σ rule))) args s 0 0 (fun _ => False)) (F0 m 12 ls []) := by
        intro fuel
        induction fuel with
        | zero => intro j y2 hj hfj e_y2 n_6; exact absurd hfj (by omega)
        | succ fuel ih_12 =>
          intro j y2 hj hfj e_y2 n_6 ls hl
          subst e_y2
          refine lv_iload hx hb dX6_hiddenByAlone_12 (lv_at hl 3 rfl) ?_
          refine lv_aload_n hx hb dX6_hiddenByAlone_14 rfl (lv_at hl 0 rfl) ?_
          refine va_get (D := Γ.1) (ci := 6) (v := .ref (a 1)) (C := RX6) (T := TX6) (N := 6) hx hb hts (by decide +kernel) hown hK hP 0 rfl rfl 0 (by decide) (hts (.fieldLink RX6 12 "RowVeils$State" "rows" "LRowVeils$Rows;") (by decide +kernel)) (fun _ h9 => h9) rfl dX6_hiddenByAlone_15 ?_
          refine va_get (D := Γ.1) (ci := 5) (v := .int (z 0)) (C := RX5) (T := TX5) (N := 5) hx hb hts (by decide +kernel) hown hK hP 1 rfl rfl 4 (by decide) (hts (.fieldLink RX6 96 "RowVeils$Rows" "size" "I") (by decide +kernel)) (fun _ h9 => h9) rfl dX6_hiddenByAlone_18 ?_
          refine asi (z := nI (σ 0)) (hR.n) ?_
          refine lv_icmp_ge (tgt := 46) hx hb dX6_hiddenByAlone_21 (by decide) (fun c_21 => ?_) (fun c_21 => ?_)
          · have n_21 := (nI_leI (a := (σ 0)) (b := j) (by omega) (by omega)).mp c_21
            refine lv_iinc (v := nI (k + 1)) (lv' := [(3, .int (nI (k + 1))), (0, .ref (a 0)), (1, .int (nI rule)), (4, .int (nI j)), (2, .int (nI (prsR (fun p r => decide (vmk σ p r = 2 ^ rule)) (σ 0) k + cnt ((fun p r => decide (vmk σ p r = 2 ^ rule)) k) j)))]) hx hb dX6_hiddenByAlone_46 hl (k := 2) rfl (nI_add _ _) (by decide) rfl (fun ls hl => ?_)
            refine lv_goto (tgt := 4) hx hb dX6_hiddenByAlone_49 (by decide) ?_
            exact ih_4 (k + 1) (nI (prsR (fun p r => decide (vmk σ p r = 2 ^ rule)) (σ 0) k + cnt ((fun p r => decide (vmk σ p r = 2 ^ rule)) k) j)) (by omega) (by omega) (by rw [show j = σ 0 from by omega]; rfl) ls (lv_sub hl [1, 2, 0, 4] rfl)
          · have n_21 := (not_congr (nI_leI (a := (σ 0)) (b := j) (by omega) (by omega))).mp c_21
            refine lv_aload_n hx hb dX6_hiddenByAlone_24 rfl (lv_at hl 0 rfl) ?_
            refine lv_iload_n hx hb dX6_hiddenByAlone_25 rfl (lv_at hl 2 rfl) ?_
            refine lv_iload hx hb dX6_hiddenByAlone_26 (lv_at hl 3 rfl) ?_
            refine cRi (As := [.int (nI k), .int (nI j)]) (rest := []) (m_X6_veilMask l Γ a f z σ hR hI k j (by omega) (by omega)) S k_X6_veilMask gX6_hiddenByAlone_X6_veilMask rfl ⟨Nat.le_of_ble_eq_true rfl, Nat.le_of_ble_eq_true rfl⟩ hK hP [0, 1, 2, 3, 4, 5, 6, 7, 8, 9, 10, 11, 12, 13, 14, 15, 16, 17, 18, 19, 20, 21, 22, 23, 24, 25, 26, 27, 28] rfl 0 (ci := 6) rfl rfl rfl rfl hl.1 (Nat.le_of_ble_eq_true rfl) rfl dX6_hiddenByAlone_28 ⟨Nat.le_of_ble_eq_true rfl, Nat.le_of_ble_eq_true rfl⟩ (fun r hr => ?_)
            subst hr
            refine lv_iconst (v := nI 1) hx hb dX6_hiddenByAlone_31 (by decide) ?_
            refine lv_iload_n hx hb dX6_hiddenByAlone_32 rfl (lv_at hl 1 rfl) ?_
            refine lv_ishl hx hb dX6_hiddenByAlone_33 ?_
            refine asi (z := nI (2 ^ rule)) (sh1 (by omega)) ?_
            have hv := vmk_lt σ k j
            refine lv_icmp_ne (tgt := 40) hx hb dX6_hiddenByAlone_34 (by decide) (fun c_34 => ?_) (fun c_34 => ?_)
            · have n_34 := (not_congr (nI_eq (a := (vmk σ k j)) (b := (2 ^ rule)) (by omega) (by omega))).mp c_34
              refine lv_iinc (v := nI (j + 1)) (lv' := [(4, .int (nI (j + 1))), (0, .ref (a 0)), (1, .int (nI rule)), (3, .int (nI k)), (2, .int (nI (prsR (fun p r => decide (vmk σ p r = 2 ^ rule)) (σ 0) k + cnt ((fun p r => decide (vmk σ p r = 2 ^ rule)) k) j)))]) hx hb dX6_hiddenByAlone_40 hl (k := 3) rfl (nI_add _ _) (by decide) rfl (fun ls hl => ?_)
              refine lv_goto (tgt := 12) hx hb dX6_hiddenByAlone_43 (by decide) ?_
              exact ih_12 (j + 1) (nI (prsR (fun p r => decide (vmk σ p r = 2 ^ rule)) (σ 0) k + cnt ((fun p r => decide (vmk σ p r = 2 ^ rule)) k) j)) (by omega) (by omega) (by first | (rw [cnt_t (p := (fun p r => decide (vmk σ p r = 2 ^ rule)) k) (decide_eq_true n_34)]; rfl) | rw [cnt_f (p := (fun p r => decide (vmk σ p r = 2 ^ rule)) k) (decide_eq_false n_34)]) n_6 ls (lv_sub hl [1, 2, 3, 0, 4] rfl)
            · have n_34 := (nI_eq (a := (vmk σ k j)) (b := (2 ^ rule)) (by omega) (by omega)).mp c_34
              refine lv_iinc (v := nI ((prsR (fun p r => decide (vmk σ p r = 2 ^ rule)) (σ 0) k + cnt ((fun p r => decide (vmk σ p r = 2 ^ rule)) k) j) + 1)) (lv' := [(2, .int (nI ((prsR (fun p r => decide (vmk σ p r = 2 ^ rule)) (σ 0) k + cnt ((fun p r => decide (vmk σ p r = 2 ^ rule)) k) j) + 1))), (0, .ref (a 0)), (1, .int (nI rule)), (3, .int (nI k)), (4, .int (nI j))]) hx hb dX6_hiddenByAlone_37 hl (k := 4) rfl (nI_add _ _) (by decide) rfl (fun ls hl => ?_)
              refine lv_iinc (v := nI (j + 1)) (lv' := [(4, .int (nI (j + 1))), (2, .int (nI ((prsR (fun p r => decide (vmk σ p r = 2 ^ rule)) (σ 0) k + cnt ((fun p r => decide (vmk σ p r = 2 ^ rule)) k) j) + 1))), (0, .ref (a 0)), (1, .int (nI rule)), (3, .int (nI k))]) hx hb dX6_hiddenByAlone_40 hl (k := 4) rfl (nI_add _ _) (by decide) rfl (fun ls hl => ?_)
              refine lv_goto (tgt := 12) hx hb dX6_hiddenByAlone_43 (by decide) ?_
              exact ih_12 (j + 1) (nI ((prsR (fun p r => decide (vmk σ p r = 2 ^ rule)) (σ 0) k + cnt ((fun p r => decide (vmk σ p r = 2 ^ rule)) k) j) + 1)) (by omega) (by omega) (by first | (rw [cnt_t (p := (fun p r => decide (vmk σ p r = 2 ^ rule)) k) (decide_eq_true n_34)]; rfl) | rw [cnt_f (p := (fun p r => decide (vmk σ p r = 2 ^ rule)) k) (decide_eq_false n_34)]) n_6 ls (lv_sub hl [2, 3, 4, 0, 1] rfl)
      refine lv_iload_n hx hb dX6_hiddenByAlone_4 rfl (lv_at hl 2 rfl) ?_
      refine lv_iconst (v := nI 5) hx hb dX6_hiddenByAlone_5 (by decide) ?_
      refine lv_icmp_ge (tgt := 52) hx hb dX6_hiddenByAlone_6 (by decide) (fun c_6 => ?_) (fun c_6 => ?_)
      · have n_6 := (nI_leI (a := 5) (b := k) (by omega) (by omega)).mp c_6
        refine lv_iload_n hx hb dX6_hiddenByAlone_52 rfl (lv_at hl 3 rfl) ?_
        exact W.iret (v := nI (prsR (fun p r => decide (vmk σ p r = 2 ^ rule)) (σ 0) k)) hx hb hrt (fun t9 ht9 hW9 => ⟨_, rfl, by unfold hidQ; rw [show 5 = k from by omega], ht9⟩) (fun _ h9 => nomatch h9) dX6_hiddenByAlone_53 hlk
      · have n_6 := (not_congr (nI_leI (a := 5) (b := k) (by omega) (by omega))).mp c_6
        refine lv_iconst (v := nI 0) hx hb dX6_hiddenByAlone_9 (by decide) ?_
        refine lv_istore (lv' := [(4, .int (nI 0)), (0, .ref (a 0)), (1, .int (nI rule)), (3, .int (nI k)), (2, .int (nI (prsR (fun p r => decide (vmk σ p r = 2 ^ rule)) (σ 0) k)))]) hx hb dX6_hiddenByAlone_10 hl (by decide) rfl (fun ls hl => ?_)
        exact L_12 ((σ 0) + 1) 0 (nI (prsR (fun p r => decide (vmk σ p r = 2 ^ rule)) (σ 0) k)) (by omega) (by omega) rfl n_6 ls (lv_sub hl [1, 2, 3, 0, 4] rfl)
  refine lv_iconst (v := nI 0) hx hb dX6_hiddenByAlone_0 (by decide) ?_
  refine lv_istore_n (lv' := [(2, .int (nI 0)), (0, .ref (a 0)), (1, .int (nI rule))]) hx hb dX6_hiddenByAlone_1 rfl hl (by decide) rfl (fun ls hl => ?_)
  refine lv_iconst (v := nI 0) hx hb dX6_hiddenByAlone_2 (by decide) ?_
  refine lv_istore_n (lv' := [(3, .int (nI 0)), (2, .int (nI 0)), (0, .ref (a 0)), (1, .int (nI rule))]) hx hb dX6_hiddenByAlone_3 rfl hl (by decide) rfl (fun ls hl => ?_)
  exact L_4 (5 + 1) 0 (nI 0) (by omega) (by omega) rfl ls (lv_sub hl [2, 3, 0, 1] rfl)


abbrev rm_X6_pairsSeen : Room := { frames := 4, cells := 0, slots := 0, locals := 95 }
theorem k_X6_pairsSeen : Cal yX6_pairsSeen wsX6_pairsSeen rm_X6_pairsSeen cX6_pairsSeen 3 (some .int) 0 0 0 := ⟨⟨_, rfl⟩, rfl, rfl, by decide +kernel⟩
set_option maxHeartbeats 4000000 in
set_option maxRecDepth 100000 in
theorem m_X6_pairsSeen (l : Launch) (Γ : Gm) (a : Nat → Nat) (f : Nat → Nat → Int32) (z : Nat → Int32) (σ : Nat → Nat) (hR : Rep σ f z) (hI : Inv σ)  : MRi l yX6_pairsSeen wsX6_pairsSeen rm_X6_pairsSeen Γ (wSt Γ a f z) [.ref (a 0)] (fun r => r = nI (pairS σ 5)) := by
  refine mR (cc := cX6_pairsSeen) (maxL := 3) (ret := (some .int)) (own := RX6) (by decide) rfl rfl (Nat.le_of_ble_eq_true rfl) ?_
  intro p e s m args below meth c S hrt hlk hK hP ls hl
  obtain ⟨hx, hb, hml, hown, hts⟩ := id S
  have hl : lv_has ls 3 [(0, .ref (a 0))] := hl
  have hP : gP Γ (wSt Γ a f z) s.heap := hP
  have L_4 : ∀ (fuel : Nat), ∀ (k : Nat) (x1 : Int32) (hk : k ≤ 5) (hfk : 5 - k < fuel) (e_x1 : x1 = nI (pairS σ k)), ∀ ls : Array Slot, lv_has ls 3 [(0, .ref (a 0)), (2, .int (nI k)), (1, .int x1)] → W p l e rm_X6_pairsSeen s m args below meth c s.heap [] 0 0 (MQ below (vp_Si (fun r => r = nI (pairS σ 5))) args s 0 0 (fun _ => False)) (F0 m 4 ls []) := by
    intro fuel
    induction fuel with
    | zero => intro k x1 hk hfk e_x1; exact absurd hfk (by omega)
    | succ fuel ih_4 =>
      intro k x1 hk hfk e_x1 ls hl
      subst e_x1
      refine lv_iload_n hx hb dX6_pairsSeen_4 rfl (lv_at hl 1 rfl) ?_
      refine lv_iconst (v := nI 5) hx hb dX6_pairsSeen_5 (by decide) ?_
      refine lv_icmp_ge (tgt := 26) hx hb dX6_pairsSeen_6 (by decide) (fun c_6 => ?_) (fun c_6 => ?_)
      · have n_6 := (nI_leI (a := 5) (b := k) (by omega) (by omega)).mp c_6
        refine lv_iload_n hx hb dX6_pairsSeen_26 rfl (lv_at hl 2 rfl) ?_
        exact W.iret (v := nI (pairS σ k)) hx hb hrt (fun t9 ht9 hW9 => ⟨_, rfl, by rw [show 5 = k from by omega], ht9⟩) (fun _ h9 => nomatch h9) dX6_pairsSeen_27 hlk
      · have n_6 := (not_congr (nI_leI (a := 5) (b := k) (by omega) (by omega))).mp c_6
        refine lv_iload_n hx hb dX6_pairsSeen_9 rfl (lv_at hl 2 rfl) ?_
        refine lv_aload_n hx hb dX6_pairsSeen_10 rfl (lv_at hl 0 rfl) ?_
        refine lv_iload_n hx hb dX6_pairsSeen_11 rfl (lv_at hl 1 rfl) ?_
        refine cRi (As := [.int (nI k)]) (rest := [.int (nI (pairS σ k))]) (m_X6_allSeen l Γ a f z σ hR hI k (by omega)) S k_X6_allSeen gX6_pairsSeen_X6_allSeen rfl ⟨Nat.le_of_ble_eq_true rfl, Nat.le_of_ble_eq_true rfl⟩ hK hP [0, 1, 2, 3, 4, 5, 6, 7, 8, 9, 10, 11, 12, 13, 14, 15, 16, 17, 18, 19, 20, 21, 22, 23, 24, 25, 26, 27, 28] rfl 0 (ci := 6) rfl rfl rfl rfl hl.1 (Nat.le_of_ble_eq_true rfl) rfl dX6_pairsSeen_12 ⟨Nat.le_of_ble_eq_true rfl, Nat.le_of_ble_eq_true rfl⟩ (fun r hr => ?_)
        subst hr
        refine cSi (As := [.int (nI (sAll σ k))]) (rest := [.int (nI (pairS σ k))]) (m_J6_bitCount_0f7a4 l (nI (sAll σ k))) S k_J6_bitCount_0f7a4 gX6_pairsSeen_J6_bitCount_0f7a4 ⟨Nat.le_of_ble_eq_true rfl, Nat.le_of_ble_eq_true rfl⟩ rfl hl.1 (Nat.le_of_ble_eq_true rfl) rfl dX6_pairsSeen_15 ⟨Nat.le_of_ble_eq_true rfl, Nat.le_of_ble_eq_true rfl⟩ (fun r hr => ?_)
        subst hr
        refine asi (z := nI (ones (sAll σ k))) (bc_ones (seenQ_lt hI _ _ _ _)) ?_
        refine lv_iadd hx hb dX6_pairsSeen_18 ?_
        refine asi (z := nI (pairS σ k + ones (sAll σ k))) (nI_add _ _) ?_
        refine lv_istore_n (lv' := [(1, .int (nI (pairS σ k + ones (sAll σ k)))), (0, .ref (a 0)), (2, .int (nI k))]) hx hb dX6_pairsSeen_19 rfl hl (by decide) rfl (fun ls hl => ?_)
        refine lv_iinc (v := nI (k + 1)) (lv' := [(2, .int (nI (k + 1))), (1, .int (nI (pairS σ k + ones (sAll σ k)))), (0, .ref (a 0))]) hx hb dX6_pairsSeen_20 hl (k := 2) rfl (nI_add _ _) (by decide) rfl (fun ls hl => ?_)
        refine lv_goto (tgt := 4) hx hb dX6_pairsSeen_23 (by decide) ?_
        exact ih_4 (k + 1) (nI (pairS σ k + ones (sAll σ k))) (by omega) (by omega) rfl ls (lv_sub hl [2, 0, 1] rfl)
  refine lv_iconst (v := nI 0) hx hb dX6_pairsSeen_0 (by decide) ?_
  refine lv_istore_n (lv' := [(1, .int (nI 0)), (0, .ref (a 0))]) hx hb dX6_pairsSeen_1 rfl hl (by decide) rfl (fun ls hl => ?_)
  refine lv_iconst (v := nI 0) hx hb dX6_pairsSeen_2 (by decide) ?_
  refine lv_istore_n (lv' := [(2, .int (nI 0)), (1, .int (nI 0)), (0, .ref (a 0))]) hx hb dX6_pairsSeen_3 rfl hl (by decide) rfl (fun ls hl => ?_)
  exact L_4 (5 + 1) 0 (nI 0) (by omega) (by omega) rfl ls (lv_sub hl [2, 0, 1] rfl)

abbrev rm_X6_shareSeen : Room := { frames := 5, cells := 0, slots := 0, locals := 117 }
theorem k_X6_shareSeen : Cal yX6_shareSeen wsX6_shareSeen rm_X6_shareSeen cX6_shareSeen 2 (some .double) 0 0 0 := ⟨⟨_, rfl⟩, rfl, rfl, by decide +kernel⟩
set_option maxHeartbeats 4000000 in
set_option maxRecDepth 100000 in
theorem m_X6_shareSeen (l : Launch) (Γ : Gm) (a : Nat → Nat) (f : Nat → Nat → Int32) (z : Nat → Int32) (σ : Nat → Nat) (hR : Rep σ f z) (hI : Inv σ)  : MRd l yX6_shareSeen wsX6_shareSeen rm_X6_shareSeen Γ (wSt Γ a f z) [.ref (a 0)] (fun r => r = shareQ σ) := by
  refine mR (cc := cX6_shareSeen) (maxL := 2) (ret := (some .double)) (own := RX6) (by decide) rfl rfl (Nat.le_of_ble_eq_true rfl) ?_
  intro p e s m args below meth c S hrt hlk hK hP ls hl
  obtain ⟨hx, hb, hml, hown, hts⟩ := id S
  have hn := hI.n
  have hl : lv_has ls 2 [(0, .ref (a 0))] := hl
  have hP : gP Γ (wSt Γ a f z) s.heap := hP
  refine lv_aload_n hx hb dX6_shareSeen_0 rfl (lv_at hl 0 rfl) ?_
  refine va_get (D := Γ.1) (ci := 6) (v := .ref (a 1)) (C := RX6) (T := TX6) (N := 6) hx hb hts (by decide +kernel) hown hK hP 0 rfl rfl 0 (by decide) (hts (.fieldLink RX6 12 "RowVeils$State" "rows" "LRowVeils$Rows;") (by decide +kernel)) (fun _ h9 => h9) rfl dX6_shareSeen_1 ?_
  refine va_get (D := Γ.1) (ci := 5) (v := .int (z 0)) (C := RX5) (T := TX5) (N := 5) hx hb hts (by decide +kernel) hown hK hP 1 rfl rfl 4 (by decide) (hts (.fieldLink RX6 96 "RowVeils$Rows" "size" "I") (by decide +kernel)) (fun _ h9 => h9) rfl dX6_shareSeen_4 ?_
  refine asi (z := nI (σ 0)) (hR.n) ?_
  refine lv_iconst (v := nI 5) hx hb dX6_shareSeen_7 (by decide) ?_
  refine lv_imul hx hb dX6_shareSeen_8 ?_
  refine asi (z := nI ((σ 0) * 5)) (pk_mul _ _) ?_
  refine lv_istore_n (lv' := [(1, .int (nI ((σ 0) * 5))), (0, .ref (a 0))]) hx hb dX6_shareSeen_9 rfl hl (by decide) rfl (fun ls hl => ?_)
  refine lv_iload_n hx hb dX6_shareSeen_10 rfl (lv_at hl 0 rfl) ?_
  refine lv_if_le (tgt := 25) hx hb dX6_shareSeen_11 (by decide) (fun c_11 => ?_) (fun c_11 => ?_)
  · have n_11 := (nI_leI (a := ((σ 0) * 5)) (b := 0) (by omega) (by omega)).mp c_11
    refine lv_dconst1 hx hb dX6_shareSeen_25 ?_
    exact W.dret (v := 4607182418800017408) hx hb hrt (fun t9 ht9 hW9 => ⟨_, rfl, by unfold shareQ; rw [if_pos (by omega)], ht9⟩) (fun _ h9 => nomatch h9) dX6_shareSeen_26 hlk
  · have n_11 := (not_congr (nI_leI (a := ((σ 0) * 5)) (b := 0) (by omega) (by omega))).mp c_11
    refine lv_aload_n hx hb dX6_shareSeen_14 rfl (lv_at hl 1 rfl) ?_
    refine cRi (As := []) (rest := []) (m_X6_pairsSeen l Γ a f z σ hR hI) S k_X6_pairsSeen gX6_shareSeen_X6_pairsSeen rfl ⟨Nat.le_of_ble_eq_true rfl, Nat.le_of_ble_eq_true rfl⟩ hK hP [0, 1, 2, 3, 4, 5, 6, 7, 8, 9, 10, 11, 12, 13, 14, 15, 16, 17, 18, 19, 20, 21, 22, 23, 24, 25, 26, 27, 28] rfl 0 (ci := 6) rfl rfl rfl rfl hl.1 (Nat.le_of_ble_eq_true rfl) rfl dX6_shareSeen_15 ⟨Nat.le_of_ble_eq_true rfl, Nat.le_of_ble_eq_true rfl⟩ (fun r hr => ?_)
    subst hr
    refine lv_i2d hx hb dX6_shareSeen_18 ?_
    refine lv_iload_n hx hb dX6_shareSeen_19 rfl (lv_at hl 0 rfl) ?_
    refine lv_i2d hx hb dX6_shareSeen_20 ?_
    refine lv_ddiv hx hb dX6_shareSeen_21 (share_ok (by omega) hn (pairS_le σ 5)) ?_
    refine lv_goto (tgt := 26) hx hb dX6_shareSeen_22 (by decide) ?_
    exact W.dret (v := FP.ddiv (FP.i2d (nI (pairS σ 5))) (FP.i2d (nI ((σ 0) * 5)))) hx hb hrt (fun t9 ht9 hW9 => ⟨_, rfl, by unfold shareQ; rw [if_neg (by omega)]; rfl, ht9⟩) (fun _ h9 => nomatch h9) dX6_shareSeen_26 hlk

