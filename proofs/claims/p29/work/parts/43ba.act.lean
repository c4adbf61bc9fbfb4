abbrev rm_L_act : Room := { frames := 8, cells := 8, slots := 48, locals := 159 }
theorem k_L_act : Cal yL_act wsL_act rm_L_act cL_act 5 (some .int) 3 8 48 := ⟨⟨_, rfl⟩, rfl, rfl, by decide +kernel⟩
set_option maxHeartbeats 4000000 in
set_option maxRecDepth 100000 in
theorem m_L_act (l : Launch) (Γ : Gm) (sz : Nat) (hfl : l.stackTraces = false) (a : Nat → Nat) (b : Nat → Nat → Nat) (rf : Nat → Option Nat) (hrf : ∀ i, i < 6 → rf i = some (b i 0)) (f : Nat → Nat → Int32) (z : Nat → Int32) (F : Nat → Nat → Nat → Int32) (Z : Nat → Nat → Int32) (σ : Nat → Nat) (sc : Nat) (ss : Nat → Nat → Nat) (nb : Nat) (bb : Nat → Nat) (hX : XR σ sc ss nb bb f z F Z) (v w : Int32) : MXi (S := WtX) l yL_act wsL_act rm_L_act Γ sz (wXo Γ a b rf f z F Z) [.ref (a 34), .int v, .int w] (fun r u => r = (acQ σ v w).2.1 ∧ XR (acQ σ v w).2.2 (cond (acQ σ v w).1 (svC sc) sc) (cond (acQ σ v w).1 (svS sc ss σ) ss) nb bb u.1 u.2.1 u.2.2.1 u.2.2.2) (fun u => (wXo Γ a b rf u.1 u.2.1 u.2.2.1 u.2.2.2)) (fun E => False) 8 48 := by
  refine mX (cc := cL_act) (maxL := 5) (ret := (some .int)) (own := RL) (by decide) rfl rfl (Nat.le_of_ble_eq_true rfl) ?_
  intro p e s m args below meth c S hrt hlk htab hsz hE hK hP hD hA hS ls hl
  subst hsz
  generalize hAe : va_A (wXo Γ a b rf f z F Z) s.heap.size = A at hE hD hA hS ⊢
  have hk2 : ∀ q : Nat, q < s.heap.size → s.heap[q]? = s.heap[q]? := fun _ _ => rfl
  obtain ⟨hx, hb, hml, hown, hts⟩ := id S
  have hn := hX.2.1.n
  have hp5 := aP_lt v
  have hl60 := aL_le w
  obtain ⟨c0, hc16, ec⟩ : ∃ c0, c0 < 16 ∧ aC v = c0 := ⟨_, Nat.lt_of_le_of_lt (andN_le v (by decide)) (by decide), rfl⟩
  have eQ : acQ σ v w = acC c0 (aP v) (aL w) σ w := by unfold acQ; rw [ec]
  have hl : lv_has ls 5 [(0, .ref (a 34)), (1, .int v), (2, .int w)] := hl
  refine lv_iload_n hx hb dL_act_0 rfl (lv_at hl 1 rfl) ?_
  refine lv_iconst (v := nI 4) hx hb dL_act_1 (by decide) ?_
  refine lv_ishr hx hb dL_act_2 ?_
  refine lv_iconst (v := nI 5) hx hb dL_act_3 (by decide) ?_
  refine cSi (As := [.int (v >>> ((nI 4) &&& 31)), .int (nI 5)]) (rest := []) (m_L_low l (v >>> ((nI 4) &&& 31)) 5 (by decide) (by decide)) S k_L_low gL_act_L_low ⟨Nat.le_of_ble_eq_true rfl, Nat.le_of_ble_eq_true rfl⟩ rfl hl.1 (Nat.le_of_ble_eq_true rfl) rfl dL_act_4 ⟨Nat.le_of_ble_eq_true rfl, Nat.le_of_ble_eq_true rfl⟩ (fun r hr => ?_)
  subst hr
  refine asi (z := nI (aP v)) (rfl) ?_
  refine lv_istore_n (lv' := [(3, .int (nI (aP v))), (0, .ref (a 34)), (1, .int v), (2, .int w)]) hx hb dL_act_7 rfl hl (by decide) rfl (fun ls hl => ?_)
  refine lv_iload_n hx hb dL_act_8 rfl (lv_at hl 3 rfl) ?_
  refine lv_iconst (v := nI 3) hx hb dL_act_9 (by decide) ?_
  refine lv_ishr hx hb dL_act_10 ?_
  refine lv_iload_n hx hb dL_act_11 rfl (lv_at hl 3 rfl) ?_
  refine lv_bipush (v := nI 20) hx hb dL_act_12 (by decide) ?_
  refine lv_ishr hx hb dL_act_14 ?_
  refine lv_iconst (v := nI 1) hx hb dL_act_15 (by decide) ?_
  refine lv_iand hx hb dL_act_16 ?_
  refine bJ60 (pc3 := 24) (pc4 := 26) hx hb dL_act_17 (by decide) dL_act_20 dL_act_21 (by decide) dL_act_24 rfl ?_
  refine cSi (As := [.int (w >>> ((nI 3) &&& 31)), .int (nI (if ((w >>> ((nI 20) &&& 31)) &&& (nI 1)) = 0 then 1 else 60))]) (rest := []) (m_L_low l (w >>> ((nI 3) &&& 31)) (if ((w >>> ((nI 20) &&& 31)) &&& (nI 1)) = 0 then 1 else 60) (by split <;> decide) (by split <;> decide)) S k_L_low gL_act_L_low ⟨Nat.le_of_ble_eq_true rfl, Nat.le_of_ble_eq_true rfl⟩ rfl hl.1 (Nat.le_of_ble_eq_true rfl) rfl dL_act_26 ⟨Nat.le_of_ble_eq_true rfl, Nat.le_of_ble_eq_true rfl⟩ (fun r hr => ?_)
  subst hr
  refine asi (z := nI (aL w)) (rfl) ?_
  refine lv_istore (lv' := [(4, .int (nI (aL w))), (3, .int (nI (aP v))), (0, .ref (a 34)), (1, .int v), (2, .int w)]) hx hb dL_act_29 hl (by decide) rfl (fun ls hl => ?_)
  refine lv_iload_n hx hb dL_act_31 rfl (lv_at hl 3 rfl) ?_
  refine lv_bipush (v := nI 15) hx hb dL_act_32 (by decide) ?_
  refine lv_iand hx hb dL_act_34 ?_
  refine asi (z := nI c0) ((andN_e v (by decide)).trans (congrArg nI ec)) ?_
  rcases (by omega : c0 = 0 ∨ c0 = 1 ∨ c0 = 2 ∨ c0 = 3 ∨ c0 = 4 ∨ c0 = 5 ∨ c0 = 6 ∨ c0 = 7 ∨ c0 = 8 ∨ c0 = 9 ∨ c0 = 10 ∨ c0 = 11 ∨ c0 = 12 ∨ c0 = 13 ∨ c0 = 14 ∨ c0 = 15) with rfl | rfl | rfl | rfl | rfl | rfl | rfl | rfl | rfl | rfl | rfl | rfl | rfl | rfl | rfl | rfl
  · refine lv_tableIn (off := 61) (tgt := 96) hx hb dL_act_35 (by decide) (by decide) (by decide) (by decide) ?_
    refine lv_aload_n hx hb dL_act_96 rfl (lv_at hl 2 rfl) ?_
    refine lv_iconst (v := nI 0) hx hb dL_act_97 (by decide) ?_
    refine lkV (As := [.int (nI 0)]) (rest := []) (v := (nI (σ 0))) (m_X8_count l Γ _ hfl a b rf f z F Z σ hX.1 hX.2.1 (nI 0)) (fun E => exc0 (co0 (w := 0) (by decide))) (fun r h => vl_cnt (σ := σ) (z := z) (w := 0) (by decide) h) hE S k_X8_count gL_act_X8_count rfl ⟨(Nat.le_of_ble_eq_true rfl), (Nat.le_of_ble_eq_true rfl)⟩ hK hP hS hA 0 (ci := 8) rfl rfl rfl rfl hl.1 (Nat.le_of_ble_eq_true rfl) rfl dL_act_98 ⟨by show _ ≤ 8; omega, by show _ ≤ 48; omega⟩ (fun H locs hP hS1 hk9 => ?_)
    have hS := hS1
    refine lv_if_ne (tgt := 109) hx hb dL_act_101 (by decide) (fun c_101 => ?_) (fun c_101 => ?_)
    · have n_101 := (not_congr (nI_eq (a := (σ 0)) (b := 0) (by omega) (by omega))).mp c_101
      refine lv_aload_n hx hb dL_act_109 rfl (lv_at hl 2 rfl) ?_
      refine lv_iload_n hx hb dL_act_110 rfl (lv_at hl 4 rfl) ?_
      refine lv_aload_n hx hb dL_act_111 rfl (lv_at hl 2 rfl) ?_
      refine lv_iconst (v := nI 0) hx hb dL_act_112 (by decide) ?_
      refine lkV (As := [.int (nI 0)]) (rest := [.int w, .ref (a 34)]) (v := (nI (σ 0))) (m_X8_count l Γ _ hfl a b rf f z F Z σ hX.1 hX.2.1 (nI 0)) (fun E => exc0 (co0 (w := 0) (by decide))) (fun r h => vl_cnt (σ := σ) (z := z) (w := 0) (by decide) h) hE S k_X8_count gL_act_X8_count rfl ⟨(Nat.le_of_ble_eq_true rfl), (Nat.le_of_ble_eq_true rfl)⟩ hK hP hS hA 0 (ci := 8) rfl rfl rfl rfl hl.1 (Nat.le_of_ble_eq_true rfl) rfl dL_act_113 ⟨by show _ ≤ 8; omega, by show _ ≤ 48; omega⟩ (fun H locs hP hS1 hk9 => ?_)
      have hS := hS1
      refine cSi (As := [.int w, .int (nI (σ 0))]) (rest := [.ref (a 34)]) (m_L_low l w (σ 0) (by omega) (by have := hX.2.1.n; omega)) S k_L_low gL_act_L_low ⟨Nat.le_of_ble_eq_true rfl, Nat.le_of_ble_eq_true rfl⟩ rfl hl.1 (Nat.le_of_ble_eq_true rfl) rfl dL_act_116 ⟨Nat.le_of_ble_eq_true rfl, Nat.le_of_ble_eq_true rfl⟩ (fun r hr => ?_)
      subst hr
      have b_q : lowN w (σ 0) < σ 0 := lowN_lt _ (by omega)
      refine acV (As := [.int (nI (lowN w (σ 0)))]) (rest := []) (m_X8_drop l Γ _ hfl a b rf hrf f z F Z σ sc ss nb bb hX (nI (lowN w (σ 0)))) (fun E => exc0 (dr0 b_q hn)) hE S k_X8_drop gL_act_X8_drop rfl ⟨(Nat.le_of_ble_eq_true rfl), (Nat.le_of_ble_eq_true rfl)⟩ hK hP hD hS hA 0 (ci := 8) rfl rfl rfl rfl hl.1 (Nat.le_of_ble_eq_true rfl) rfl dL_act_119 ⟨by show _ ≤ 8; omega, by show _ ≤ 48; omega⟩ (fun r u H locs hr hP hD hS => ?_)
      simp only [nI_clamp (show lowN w (σ 0) < 2 ^ 31 by omega)] at hr
      refine W.widen (k := 8) (n := 48) (by omega) (by omega) ?_
      exact vx_ret (W.iret (v := r) hx hb hrt (fun t9 ht9 hW9 => ⟨⟨_, u, rfl, act_end (eQ.trans (if_neg n_101)) hr.2.1 hr.2.2, by rw [ht9]; exact hP, va_K.moved hW9.alike hK, hD⟩, hS.F ht9⟩) hS.2.2 dL_act_122 hlk)
    · have n_101 := (nI_eq (a := (σ 0)) (b := 0) (by omega) (by omega)).mp c_101
      refine lv_bipush (v := (-9)) hx hb dL_act_104 (by decide) ?_
      refine lv_goto (tgt := 122) hx hb dL_act_106 (by decide) ?_
      refine W.widen (k := 8) (n := 48) (by omega) (by omega) ?_
      exact vx_ret (W.iret (v := (-9)) hx hb hrt (fun t9 ht9 hW9 => ⟨⟨_, (f, z, F, Z), rfl, act_no (eQ.trans (if_pos n_101)) hX, by rw [ht9]; exact hP, va_K.moved hW9.alike hK, hD⟩, hS.F ht9⟩) hS.2.2 dL_act_122 hlk)
  · refine lv_tableIn (off := 88) (tgt := 123) hx hb dL_act_35 (by decide) (by decide) (by decide) (by decide) ?_
    refine lv_aload_n hx hb dL_act_123 rfl (lv_at hl 2 rfl) ?_
    refine lv_iconst (v := nI 0) hx hb dL_act_124 (by decide) ?_
    refine lkV (As := [.int (nI 0)]) (rest := []) (v := (nI (σ 0))) (m_X8_count l Γ _ hfl a b rf f z F Z σ hX.1 hX.2.1 (nI 0)) (fun E => exc0 (co0 (w := 0) (by decide))) (fun r h => vl_cnt (σ := σ) (z := z) (w := 0) (by decide) h) hE S k_X8_count gL_act_X8_count rfl ⟨(Nat.le_of_ble_eq_true rfl), (Nat.le_of_ble_eq_true rfl)⟩ hK hP hS hA 0 (ci := 8) rfl rfl rfl rfl hl.1 (Nat.le_of_ble_eq_true rfl) rfl dL_act_125 ⟨by show _ ≤ 8; omega, by show _ ≤ 48; omega⟩ (fun H locs hP hS1 hk9 => ?_)
    have hS := hS1
    refine lv_if_ne (tgt := 136) hx hb dL_act_128 (by decide) (fun c_128 => ?_) (fun c_128 => ?_)
    · have n_128 := (not_congr (nI_eq (a := (σ 0)) (b := 0) (by omega) (by omega))).mp c_128
      refine lv_aload_n hx hb dL_act_136 rfl (lv_at hl 2 rfl) ?_
      refine lv_iload_n hx hb dL_act_137 rfl (lv_at hl 4 rfl) ?_
      refine lv_aload_n hx hb dL_act_138 rfl (lv_at hl 2 rfl) ?_
      refine lv_iconst (v := nI 0) hx hb dL_act_139 (by decide) ?_
      refine lkV (As := [.int (nI 0)]) (rest := [.int w, .ref (a 34)]) (v := (nI (σ 0))) (m_X8_count l Γ _ hfl a b rf f z F Z σ hX.1 hX.2.1 (nI 0)) (fun E => exc0 (co0 (w := 0) (by decide))) (fun r h => vl_cnt (σ := σ) (z := z) (w := 0) (by decide) h) hE S k_X8_count gL_act_X8_count rfl ⟨(Nat.le_of_ble_eq_true rfl), (Nat.le_of_ble_eq_true rfl)⟩ hK hP hS hA 0 (ci := 8) rfl rfl rfl rfl hl.1 (Nat.le_of_ble_eq_true rfl) rfl dL_act_140 ⟨by show _ ≤ 8; omega, by show _ ≤ 48; omega⟩ (fun H locs hP hS1 hk9 => ?_)
      have hS := hS1
      refine cSi (As := [.int w, .int (nI (σ 0))]) (rest := [.ref (a 34)]) (m_L_low l w (σ 0) (by omega) (by have := hX.2.1.n; omega)) S k_L_low gL_act_L_low ⟨Nat.le_of_ble_eq_true rfl, Nat.le_of_ble_eq_true rfl⟩ rfl hl.1 (Nat.le_of_ble_eq_true rfl) rfl dL_act_143 ⟨Nat.le_of_ble_eq_true rfl, Nat.le_of_ble_eq_true rfl⟩ (fun r hr => ?_)
      subst hr
      refine lv_iload_n hx hb dL_act_146 rfl (lv_at hl 4 rfl) ?_
      refine lv_iconst (v := nI 4) hx hb dL_act_147 (by decide) ?_
      refine lv_ishr hx hb dL_act_148 ?_
      refine lv_bipush (v := nI 100) hx hb dL_act_149 (by decide) ?_
      refine cSi (As := [.int (w >>> ((nI 4) &&& 31)), .int (nI 100)]) (rest := [.int (nI (lowN w (σ 0))), .ref (a 34)]) (m_L_low l (w >>> ((nI 4) &&& 31)) 100 (by decide) (by decide)) S k_L_low gL_act_L_low ⟨Nat.le_of_ble_eq_true rfl, Nat.le_of_ble_eq_true rfl⟩ rfl hl.1 (Nat.le_of_ble_eq_true rfl) rfl dL_act_151 ⟨Nat.le_of_ble_eq_true rfl, Nat.le_of_ble_eq_true rfl⟩ (fun r hr => ?_)
      subst hr
      have b_q : lowN w (σ 0) < σ 0 := lowN_lt _ (by omega)
      have b_v : lowN (w >>> (nI 4 &&& 31)) 100 < 100 := lowN_lt _ (by decide)
      refine acV (As := [.int (nI (lowN w (σ 0))), .int (nI (lowN (w >>> ((nI 4) &&& 31)) 100))]) (rest := []) (m_X8_change l Γ _ hfl a b rf hrf f z F Z σ sc ss nb bb hX (nI (lowN w (σ 0))) (nI (lowN (w >>> ((nI 4) &&& 31)) 100))) (fun E => exc0 (ch0 b_q hn b_v)) hE S k_X8_change gL_act_X8_change rfl ⟨(Nat.le_of_ble_eq_true rfl), (Nat.le_of_ble_eq_true rfl)⟩ hK hP hD hS hA 0 (ci := 8) rfl rfl rfl rfl hl.1 (Nat.le_of_ble_eq_true rfl) rfl dL_act_154 ⟨by show _ ≤ 8; omega, by show _ ≤ 48; omega⟩ (fun r u H locs hr hP hD hS => ?_)
      simp only [nI_clamp (show lowN w (σ 0) < 2 ^ 31 by omega), nI_clamp (show lowN (w >>> (nI 4 &&& 31)) 100 < 2 ^ 31 by omega)] at hr
      refine W.widen (k := 8) (n := 48) (by omega) (by omega) ?_
      exact vx_ret (W.iret (v := r) hx hb hrt (fun t9 ht9 hW9 => ⟨⟨_, u, rfl, act_end (eQ.trans (if_neg n_128)) hr.2.1 hr.2.2, by rw [ht9]; exact hP, va_K.moved hW9.alike hK, hD⟩, hS.F ht9⟩) hS.2.2 dL_act_157 hlk)
    · have n_128 := (nI_eq (a := (σ 0)) (b := 0) (by omega) (by omega)).mp c_128
      refine lv_bipush (v := (-9)) hx hb dL_act_131 (by decide) ?_
      refine lv_goto (tgt := 157) hx hb dL_act_133 (by decide) ?_
      refine W.widen (k := 8) (n := 48) (by omega) (by omega) ?_
      exact vx_ret (W.iret (v := (-9)) hx hb hrt (fun t9 ht9 hW9 => ⟨⟨_, (f, z, F, Z), rfl, act_no (eQ.trans (if_pos n_128)) hX, by rw [ht9]; exact hP, va_K.moved hW9.alike hK, hD⟩, hS.F ht9⟩) hS.2.2 dL_act_157 hlk)
  · refine lv_tableIn (off := 123) (tgt := 158) hx hb dL_act_35 (by decide) (by decide) (by decide) (by decide) ?_
    refine lv_aload_n hx hb dL_act_158 rfl (lv_at hl 2 rfl) ?_
    refine lv_iload_n hx hb dL_act_159 rfl (lv_at hl 1 rfl) ?_
    refine lv_iload_n hx hb dL_act_160 rfl (lv_at hl 4 rfl) ?_
    refine lv_iconst (v := nI 4) hx hb dL_act_161 (by decide) ?_
    refine cSi (As := [.int w, .int (nI 4)]) (rest := [.int (nI (aP v)), .ref (a 34)]) (m_L_low l w 4 (by decide) (by decide)) S k_L_low gL_act_L_low ⟨Nat.le_of_ble_eq_true rfl, Nat.le_of_ble_eq_true rfl⟩ rfl hl.1 (Nat.le_of_ble_eq_true rfl) rfl dL_act_162 ⟨Nat.le_of_ble_eq_true rfl, Nat.le_of_ble_eq_true rfl⟩ (fun r hr => ?_)
    subst hr
    refine lv_iload_n hx hb dL_act_165 rfl (lv_at hl 4 rfl) ?_
    refine lv_iconst (v := nI 2) hx hb dL_act_166 (by decide) ?_
    refine lv_ishr hx hb dL_act_167 ?_
    refine lv_iconst (v := nI 4) hx hb dL_act_168 (by decide) ?_
    refine cSi (As := [.int (w >>> ((nI 2) &&& 31)), .int (nI 4)]) (rest := [.int (nI (lowN w 4)), .int (nI (aP v)), .ref (a 34)]) (m_L_low l (w >>> ((nI 2) &&& 31)) 4 (by decide) (by decide)) S k_L_low gL_act_L_low ⟨Nat.le_of_ble_eq_true rfl, Nat.le_of_ble_eq_true rfl⟩ rfl hl.1 (Nat.le_of_ble_eq_true rfl) rfl dL_act_169 ⟨Nat.le_of_ble_eq_true rfl, Nat.le_of_ble_eq_true rfl⟩ (fun r hr => ?_)
    subst hr
    have b_k : lowN w 4 < 4 := lowN_lt _ (by decide)
    have b_h : lowN (w >>> (nI 2 &&& 31)) 4 < 4 := lowN_lt _ (by decide)
    refine acV (As := [.int (nI (aP v)), .int (nI (lowN w 4)), .int (nI (lowN (w >>> ((nI 2) &&& 31)) 4))]) (rest := []) (m_X8_person l Γ _ hfl a b rf hrf f z F Z σ sc ss nb bb hX (nI (aP v)) (nI (lowN w 4)) (nI (lowN (w >>> ((nI 2) &&& 31)) 4))) (fun E => exc0 (ps0 (aP_lt v) b_k b_h)) hE S k_X8_person gL_act_X8_person rfl ⟨(Nat.le_of_ble_eq_true rfl), (Nat.le_of_ble_eq_true rfl)⟩ hK hP hD hS hA 0 (ci := 8) rfl rfl rfl rfl hl.1 (Nat.le_of_ble_eq_true rfl) rfl dL_act_172 ⟨by show _ ≤ 8; omega, by show _ ≤ 48; omega⟩ (fun r u H locs hr hP hD hS => ?_)
    simp only [nI_clamp (show aP v < 2 ^ 31 by omega), nI_clamp (show lowN w 4 < 2 ^ 31 by omega), nI_clamp (show lowN (w >>> (nI 2 &&& 31)) 4 < 2 ^ 31 by omega)] at hr
    refine W.widen (k := 8) (n := 48) (by omega) (by omega) ?_
    exact vx_ret (W.iret (v := r) hx hb hrt (fun t9 ht9 hW9 => ⟨⟨_, u, rfl, act_end (eQ.trans rfl) hr.2.1 hr.2.2, by rw [ht9]; exact hP, va_K.moved hW9.alike hK, hD⟩, hS.F ht9⟩) hS.2.2 dL_act_175 hlk)
  · refine lv_tableIn (off := 141) (tgt := 176) hx hb dL_act_35 (by decide) (by decide) (by decide) (by decide) ?_
    refine lv_aload_n hx hb dL_act_176 rfl (lv_at hl 2 rfl) ?_
    refine lv_iload_n hx hb dL_act_177 rfl (lv_at hl 1 rfl) ?_
    refine lv_iload_n hx hb dL_act_178 rfl (lv_at hl 4 rfl) ?_
    refine lv_iconst (v := nI 3) hx hb dL_act_179 (by decide) ?_
    refine lv_iand hx hb dL_act_180 ?_
    refine lv_if_ne (tgt := 188) hx hb dL_act_181 (by decide) (fun c_181 => ?_) (fun c_181 => ?_)
    · 
      refine lv_iload_n hx hb dL_act_188 rfl (lv_at hl 1 rfl) ?_
      refine lv_iconst (v := nI 1) hx hb dL_act_189 (by decide) ?_
      refine lv_iadd hx hb dL_act_190 ?_
      refine asi (z := nI ((aP v) + 1)) (nI_add _ _) ?_
      refine lv_iload_n hx hb dL_act_191 rfl (lv_at hl 4 rfl) ?_
      refine lv_iconst (v := nI 2) hx hb dL_act_192 (by decide) ?_
      refine lv_ishr hx hb dL_act_193 ?_
      refine lv_iconst (v := nI 4) hx hb dL_act_194 (by decide) ?_
      refine cSi (As := [.int (w >>> ((nI 2) &&& 31)), .int (nI 4)]) (rest := [.int (nI ((aP v) + 1)), .int (nI (aP v)), .ref (a 34)]) (m_L_low l (w >>> ((nI 2) &&& 31)) 4 (by decide) (by decide)) S k_L_low gL_act_L_low ⟨Nat.le_of_ble_eq_true rfl, Nat.le_of_ble_eq_true rfl⟩ rfl hl.1 (Nat.le_of_ble_eq_true rfl) rfl dL_act_195 ⟨Nat.le_of_ble_eq_true rfl, Nat.le_of_ble_eq_true rfl⟩ (fun r hr => ?_)
      subst hr
      refine lv_iadd hx hb dL_act_198 ?_
      refine asi (z := nI (((aP v) + 1) + (lowN (w >>> ((nI 2) &&& 31)) 4))) (nI_add _ _) ?_
      refine lv_iconst (v := nI 5) hx hb dL_act_199 (by decide) ?_
      refine lv_irem hx hb dL_act_200 (nI_ne0 (by decide) (by decide)) ?_
      refine asi (z := nI ((aP v + 1 + lowN (w >>> (nI 2 &&& 31)) 4) % 5)) (pk_rem (by have := lowN_lt (w >>> (nI 2 &&& 31)) (n := 4) (by decide); omega) (by decide) (by decide)) ?_
      have b_h : lowN (w >>> (nI 2 &&& 31)) 4 < 4 := lowN_lt _ (by decide)
      have b_m : (aP v + 1 + lowN (w >>> (nI 2 &&& 31)) 4) % 5 < 5 := Nat.mod_lt _ (by decide)
      have ac_m1 : acC 3 (aP v) (aL w) σ w = (true, mI (oP σ (aP v) 2), masS σ (aP v) (masN (nI ((aP v + 1 + lowN (w >>> (nI 2 &&& 31)) 4) % 5)))) := by show (true, _, masS σ (aP v) (if w &&& nI 3 = 0 then 0 else _)) = _; rw [if_neg c_181, masN_n b_m]
      refine acV (As := [.int (nI (aP v)), .int (nI ((aP v + 1 + lowN (w >>> (nI 2 &&& 31)) 4) % 5))]) (rest := []) (m_X8_master l Γ _ hfl a b rf hrf f z F Z σ sc ss nb bb hX (nI (aP v)) (nI ((aP v + 1 + lowN (w >>> (nI 2 &&& 31)) 4) % 5))) (fun E => exc0 (ma1 (aP_lt v) (by omega) (by omega))) hE S k_X8_master gL_act_X8_master rfl ⟨(Nat.le_of_ble_eq_true rfl), (Nat.le_of_ble_eq_true rfl)⟩ hK hP hD hS hA 0 (ci := 8) rfl rfl rfl rfl hl.1 (Nat.le_of_ble_eq_true rfl) rfl dL_act_201 ⟨by show _ ≤ 8; omega, by show _ ≤ 48; omega⟩ (fun r u H locs hr hP hD hS => ?_)
      simp only [nI_clamp (show aP v < 2 ^ 31 by omega)] at hr
      refine W.widen (k := 8) (n := 48) (by omega) (by omega) ?_
      exact vx_ret (W.iret (v := r) hx hb hrt (fun t9 ht9 hW9 => ⟨⟨_, u, rfl, act_end (eQ.trans ac_m1) hr.2.1 hr.2.2, by rw [ht9]; exact hP, va_K.moved hW9.alike hK, hD⟩, hS.F ht9⟩) hS.2.2 dL_act_204 hlk)
    · 
      refine lv_iconst (v := (-1)) hx hb dL_act_184 (by decide) ?_
      refine lv_goto (tgt := 201) hx hb dL_act_185 (by decide) ?_
      have ac_m0 : acC 3 (aP v) (aL w) σ w = (true, mI (oP σ (aP v) 2), masS σ (aP v) (masN (-1))) := by show (true, _, masS σ (aP v) (if w &&& nI 3 = 0 then 0 else _)) = _; rw [if_pos (c_181)]; rfl
      refine acV (As := [.int (nI (aP v)), .int (-1)]) (rest := []) (m_X8_master l Γ _ hfl a b rf hrf f z F Z σ sc ss nb bb hX (nI (aP v)) (-1)) (fun E => exc0 (ma0 (aP_lt v))) hE S k_X8_master gL_act_X8_master rfl ⟨(Nat.le_of_ble_eq_true rfl), (Nat.le_of_ble_eq_true rfl)⟩ hK hP hD hS hA 0 (ci := 8) rfl rfl rfl rfl hl.1 (Nat.le_of_ble_eq_true rfl) rfl dL_act_201 ⟨by show _ ≤ 8; omega, by show _ ≤ 48; omega⟩ (fun r u H locs hr hP hD hS => ?_)
      simp only [nI_clamp (show aP v < 2 ^ 31 by omega)] at hr
      refine W.widen (k := 8) (n := 48) (by omega) (by omega) ?_
      exact vx_ret (W.iret (v := r) hx hb hrt (fun t9 ht9 hW9 => ⟨⟨_, u, rfl, act_end (eQ.trans ac_m0) hr.2.1 hr.2.2, by rw [ht9]; exact hP, va_K.moved hW9.alike hK, hD⟩, hS.F ht9⟩) hS.2.2 dL_act_204 hlk)
  · refine lv_tableIn (off := 170) (tgt := 205) hx hb dL_act_35 (by decide) (by decide) (by decide) (by decide) ?_
    refine lv_aload_n hx hb dL_act_205 rfl (lv_at hl 2 rfl) ?_
    refine lv_iload_n hx hb dL_act_206 rfl (lv_at hl 4 rfl) ?_
    refine lv_iconst (v := nI 4) hx hb dL_act_207 (by decide) ?_
    refine cSi (As := [.int w, .int (nI 4)]) (rest := [.ref (a 34)]) (m_L_low l w 4 (by decide) (by decide)) S k_L_low gL_act_L_low ⟨Nat.le_of_ble_eq_true rfl, Nat.le_of_ble_eq_true rfl⟩ rfl hl.1 (Nat.le_of_ble_eq_true rfl) rfl dL_act_208 ⟨Nat.le_of_ble_eq_true rfl, Nat.le_of_ble_eq_true rfl⟩ (fun r hr => ?_)
    subst hr
    refine lv_iload_n hx hb dL_act_211 rfl (lv_at hl 4 rfl) ?_
    refine lv_iconst (v := nI 2) hx hb dL_act_212 (by decide) ?_
    refine lv_ishr hx hb dL_act_213 ?_
    refine lv_iconst (v := nI 1) hx hb dL_act_214 (by decide) ?_
    refine lv_iand hx hb dL_act_215 ?_
    refine bJnz (P := (decide ((w >>> (nI 2 &&& 31)) &&& nI 1 = 0))) (pc3 := 223) (pc4 := 224) hx hb dL_act_216 (by decide) dL_act_219 dL_act_220 (by decide) dL_act_223 rfl (decide_eq_true_iff.symm) ?_
    have b_k : lowN w 4 < 4 := lowN_lt _ (by decide)
    refine acV (As := [.int (nI (lowN w 4)), .int (bI (decide ((w >>> (nI 2 &&& 31)) &&& nI 1 = 0)))]) (rest := []) (m_X8_force l Γ _ hfl a b rf hrf f z F Z σ sc ss nb bb hX (nI (lowN w 4)) (decide ((w >>> (nI 2 &&& 31)) &&& nI 1 = 0))) (fun E => exc0 (fo0 b_k)) hE S k_X8_force gL_act_X8_force rfl ⟨(Nat.le_of_ble_eq_true rfl), (Nat.le_of_ble_eq_true rfl)⟩ hK hP hD hS hA 0 (ci := 8) rfl rfl rfl rfl hl.1 (Nat.le_of_ble_eq_true rfl) rfl dL_act_224 ⟨by show _ ≤ 8; omega, by show _ ≤ 48; omega⟩ (fun r u H locs hr hP hD hS => ?_)
    simp only [nI_clamp (show lowN w 4 < 2 ^ 31 by omega)] at hr
    refine W.widen (k := 8) (n := 48) (by omega) (by omega) ?_
    exact vx_ret (W.iret (v := r) hx hb hrt (fun t9 ht9 hW9 => ⟨⟨_, u, rfl, act_end (eQ.trans rfl) hr.2.1 hr.2.2, by rw [ht9]; exact hP, va_K.moved hW9.alike hK, hD⟩, hS.F ht9⟩) hS.2.2 dL_act_227 hlk)
  · refine lv_tableIn (off := 193) (tgt := 228) hx hb dL_act_35 (by decide) (by decide) (by decide) (by decide) ?_
    refine lv_aload_n hx hb dL_act_228 rfl (lv_at hl 2 rfl) ?_
    refine lv_iload_n hx hb dL_act_229 rfl (lv_at hl 4 rfl) ?_
    refine lv_iconst (v := nI 2) hx hb dL_act_230 (by decide) ?_
    refine cSi (As := [.int w, .int (nI 2)]) (rest := [.ref (a 34)]) (m_L_low l w 2 (by decide) (by decide)) S k_L_low gL_act_L_low ⟨Nat.le_of_ble_eq_true rfl, Nat.le_of_ble_eq_true rfl⟩ rfl hl.1 (Nat.le_of_ble_eq_true rfl) rfl dL_act_231 ⟨Nat.le_of_ble_eq_true rfl, Nat.le_of_ble_eq_true rfl⟩ (fun r hr => ?_)
    subst hr
    refine lv_iconst (v := nI 1) hx hb dL_act_234 (by decide) ?_
    refine lv_iload_n hx hb dL_act_235 rfl (lv_at hl 4 rfl) ?_
    refine lv_iconst (v := nI 1) hx hb dL_act_236 (by decide) ?_
    refine lv_ishr hx hb dL_act_237 ?_
    refine lv_bipush (v := nI 9) hx hb dL_act_238 (by decide) ?_
    refine cSi (As := [.int (w >>> ((nI 1) &&& 31)), .int (nI 9)]) (rest := [.int (nI 1), .int (nI (lowN w 2)), .ref (a 34)]) (m_L_low l (w >>> ((nI 1) &&& 31)) 9 (by decide) (by decide)) S k_L_low gL_act_L_low ⟨Nat.le_of_ble_eq_true rfl, Nat.le_of_ble_eq_true rfl⟩ rfl hl.1 (Nat.le_of_ble_eq_true rfl) rfl dL_act_240 ⟨Nat.le_of_ble_eq_true rfl, Nat.le_of_ble_eq_true rfl⟩ (fun r hr => ?_)
    subst hr
    refine lv_iadd hx hb dL_act_243 ?_
    refine asi (z := nI (1 + (lowN (w >>> ((nI 1) &&& 31)) 9))) (nI_add _ _) ?_
    have b_i : lowN w 2 < 2 := lowN_lt _ (by decide)
    have b_s : lowN (w >>> (nI 1 &&& 31)) 9 < 9 := lowN_lt _ (by decide)
    refine acV (As := [.int (nI (lowN w 2)), .int (nI (1 + (lowN (w >>> ((nI 1) &&& 31)) 9)))]) (rest := []) (m_X8_set l Γ _ hfl a b rf hrf f z F Z σ sc ss nb bb hX (nI (lowN w 2)) (nI (1 + (lowN (w >>> ((nI 1) &&& 31)) 9)))) (fun E => exc0 (se0 b_i (by omega) (by omega))) hE S k_X8_set gL_act_X8_set rfl ⟨(Nat.le_of_ble_eq_true rfl), (Nat.le_of_ble_eq_true rfl)⟩ hK hP hD hS hA 0 (ci := 8) rfl rfl rfl rfl hl.1 (Nat.le_of_ble_eq_true rfl) rfl dL_act_244 ⟨by show _ ≤ 8; omega, by show _ ≤ 48; omega⟩ (fun r u H locs hr hP hD hS => ?_)
    simp only [nI_clamp (show lowN w 2 < 2 ^ 31 by omega), nI_clamp (show 1 + lowN (w >>> (nI 1 &&& 31)) 9 < 2 ^ 31 by omega)] at hr
    refine W.widen (k := 8) (n := 48) (by omega) (by omega) ?_
    exact vx_ret (W.iret (v := r) hx hb hrt (fun t9 ht9 hW9 => ⟨⟨_, u, rfl, act_end (eQ.trans rfl) hr.2.1 hr.2.2, by rw [ht9]; exact hP, va_K.moved hW9.alike hK, hD⟩, hS.F ht9⟩) hS.2.2 dL_act_247 hlk)
  · refine lv_tableIn (off := 213) (tgt := 248) hx hb dL_act_35 (by decide) (by decide) (by decide) (by decide) ?_
    refine lv_iload_n hx hb dL_act_248 rfl (lv_at hl 4 rfl) ?_
    refine lv_iconst (v := nI 3) hx hb dL_act_249 (by decide) ?_
    refine lv_iand hx hb dL_act_250 ?_
    refine lv_if_ne (tgt := 262) hx hb dL_act_251 (by decide) (fun c_251 => ?_) (fun c_251 => ?_)
    · 
      refine lv_aload_n hx hb dL_act_262 rfl (lv_at hl 2 rfl) ?_
      refine lv_iconst (v := nI 2) hx hb dL_act_263 (by decide) ?_
      refine lv_iload_n hx hb dL_act_264 rfl (lv_at hl 4 rfl) ?_
      refine lv_iconst (v := nI 2) hx hb dL_act_265 (by decide) ?_
      refine lv_ishr hx hb dL_act_266 ?_
      refine lv_iconst (v := nI 1) hx hb dL_act_267 (by decide) ?_
      refine lv_iand hx hb dL_act_268 ?_
      refine asi (z := nI (andN (w >>> (nI 2 &&& 31)) 1)) (andN_e _ (by decide)) ?_
      have b_1 : andN (w >>> (nI 2 &&& 31)) 1 ≤ 1 := andN_le _ (by decide)
      refine acV (As := [.int (nI 2), .int (nI (andN (w >>> (nI 2 &&& 31)) 1))]) (rest := []) (m_X8_set l Γ _ hfl a b rf hrf f z F Z σ sc ss nb bb hX (nI 2) (nI (andN (w >>> (nI 2 &&& 31)) 1))) (fun E => exc0 (se2 b_1)) hE S k_X8_set gL_act_X8_set rfl ⟨(Nat.le_of_ble_eq_true rfl), (Nat.le_of_ble_eq_true rfl)⟩ hK hP hD hS hA 0 (ci := 8) rfl rfl rfl rfl hl.1 (Nat.le_of_ble_eq_true rfl) rfl dL_act_269 ⟨by show _ ≤ 8; omega, by show _ ≤ 48; omega⟩ (fun r u H locs hr hP hD hS => ?_)
      simp only [nI_clamp (show andN (w >>> (nI 2 &&& 31)) 1 < 2 ^ 31 by omega), nI_clamp (show 2 < 2 ^ 31 by omega)] at hr
      refine W.widen (k := 8) (n := 48) (by omega) (by omega) ?_
      exact vx_ret (W.iret (v := r) hx hb hrt (fun t9 ht9 hW9 => ⟨⟨_, u, rfl, act_end (eQ.trans (if_neg c_251)) hr.2.1 hr.2.2, by rw [ht9]; exact hP, va_K.moved hW9.alike hK, hD⟩, hS.F ht9⟩) hS.2.2 dL_act_272 hlk)
    · 
      refine lv_aload_n hx hb dL_act_254 rfl (lv_at hl 2 rfl) ?_
      refine lv_iload_n hx hb dL_act_255 rfl (lv_at hl 1 rfl) ?_
      refine acV (As := [.int (nI (aP v))]) (rest := []) (m_X8_forget l Γ _ hfl a b rf hrf f z F Z σ sc ss nb bb hX (nI (aP v))) (fun E => exc0 (fg0 (aP_lt v))) hE S k_X8_forget gL_act_X8_forget rfl ⟨(Nat.le_of_ble_eq_true rfl), (Nat.le_of_ble_eq_true rfl)⟩ hK hP hD hS hA 0 (ci := 8) rfl rfl rfl rfl hl.1 (Nat.le_of_ble_eq_true rfl) rfl dL_act_256 ⟨by show _ ≤ 8; omega, by show _ ≤ 48; omega⟩ (fun r u H locs hr hP hD hS => ?_)
      simp only [nI_clamp (show aP v < 2 ^ 31 by omega)] at hr
      refine lv_goto (tgt := 272) hx hb dL_act_259 (by decide) ?_
      refine W.widen (k := 8) (n := 48) (by omega) (by omega) ?_
      exact vx_ret (W.iret (v := r) hx hb hrt (fun t9 ht9 hW9 => ⟨⟨_, u, rfl, act_end (eQ.trans (if_pos (c_251))) hr.2.1 hr.2.2, by rw [ht9]; exact hP, va_K.moved hW9.alike hK, hD⟩, hS.F ht9⟩) hS.2.2 dL_act_272 hlk)
  · refine lv_tableIn (off := 238) (tgt := 273) hx hb dL_act_35 (by decide) (by decide) (by decide) (by decide) ?_
    refine lv_aload_n hx hb dL_act_273 rfl (lv_at hl 2 rfl) ?_
    refine lv_iload_n hx hb dL_act_274 rfl (lv_at hl 1 rfl) ?_
    refine lv_iload_n hx hb dL_act_275 rfl (lv_at hl 4 rfl) ?_
    refine lv_iconst (v := nI 5) hx hb dL_act_276 (by decide) ?_
    refine cSi (As := [.int w, .int (nI 5)]) (rest := [.int (nI (aP v)), .ref (a 34)]) (m_L_low l w 5 (by decide) (by decide)) S k_L_low gL_act_L_low ⟨Nat.le_of_ble_eq_true rfl, Nat.le_of_ble_eq_true rfl⟩ rfl hl.1 (Nat.le_of_ble_eq_true rfl) rfl dL_act_277 ⟨Nat.le_of_ble_eq_true rfl, Nat.le_of_ble_eq_true rfl⟩ (fun r hr => ?_)
    subst hr
    refine lv_iconst (v := nI 1) hx hb dL_act_280 (by decide) ?_
    refine lv_isub hx hb dL_act_281 ?_
    refine lv_iload hx hb dL_act_282 (lv_at hl 0 rfl) ?_
    refine lv_bipush (v := nI 99) hx hb dL_act_284 (by decide) ?_
    have b_j : lowN w 5 < 5 := lowN_lt _ (by decide)
    refine acV (As := [.int (nI (aP v)), .int ((nI (lowN w 5)) - (nI 1)), .int (nI (aL w)), .int (nI 99)]) (rest := []) (m_X8_askSum l Γ _ hfl a b rf hrf f z F Z σ sc ss nb bb hX (nI (aP v)) ((nI (lowN w 5)) - (nI 1)) (nI (aL w)) (nI 99)) (fun E => exc0 (qc0 (aP_lt v) b_j (by omega) (by decide))) hE S k_X8_askSum gL_act_X8_askSum rfl ⟨(Nat.le_of_ble_eq_true rfl), (Nat.le_of_ble_eq_true rfl)⟩ hK hP hD hS hA 0 (ci := 8) rfl rfl rfl rfl hl.1 (Nat.le_of_ble_eq_true rfl) rfl dL_act_286 ⟨by show _ ≤ 8; omega, by show _ ≤ 48; omega⟩ (fun r u H locs hr hP hD hS => ?_)
    simp only [nI_clamp (show aP v < 2 ^ 31 by omega), nI_clamp (show aL w < 2 ^ 31 by omega), nI_clamp (show 99 < 2 ^ 31 by omega)] at hr
    refine W.widen (k := 8) (n := 48) (by omega) (by omega) ?_
    exact vx_ret (W.iret (v := r) hx hb hrt (fun t9 ht9 hW9 => ⟨⟨_, u, rfl, act_end (eQ.trans rfl) hr.2.1 hr.2.2, by rw [ht9]; exact hP, va_K.moved hW9.alike hK, hD⟩, hS.F ht9⟩) hS.2.2 dL_act_289 hlk)
  · refine lv_tableIn (off := 255) (tgt := 290) hx hb dL_act_35 (by decide) (by decide) (by decide) (by decide) ?_
    refine lv_aload_n hx hb dL_act_290 rfl (lv_at hl 2 rfl) ?_
    refine lv_iload_n hx hb dL_act_291 rfl (lv_at hl 1 rfl) ?_
    refine lv_iload_n hx hb dL_act_292 rfl (lv_at hl 4 rfl) ?_
    refine lv_iconst (v := nI 5) hx hb dL_act_293 (by decide) ?_
    refine cSi (As := [.int w, .int (nI 5)]) (rest := [.int (nI (aP v)), .ref (a 34)]) (m_L_low l w 5 (by decide) (by decide)) S k_L_low gL_act_L_low ⟨Nat.le_of_ble_eq_true rfl, Nat.le_of_ble_eq_true rfl⟩ rfl hl.1 (Nat.le_of_ble_eq_true rfl) rfl dL_act_294 ⟨Nat.le_of_ble_eq_true rfl, Nat.le_of_ble_eq_true rfl⟩ (fun r hr => ?_)
    subst hr
    refine lv_iconst (v := nI 1) hx hb dL_act_297 (by decide) ?_
    refine lv_isub hx hb dL_act_298 ?_
    refine lv_iload hx hb dL_act_299 (lv_at hl 0 rfl) ?_
    refine lv_bipush (v := nI 99) hx hb dL_act_301 (by decide) ?_
    refine lv_iload_n hx hb dL_act_303 rfl (lv_at hl 4 rfl) ?_
    refine lv_bipush (v := nI 9) hx hb dL_act_304 (by decide) ?_
    refine lv_ishr hx hb dL_act_306 ?_
    refine lv_bipush (v := nI 40) hx hb dL_act_307 (by decide) ?_
    refine cSi (As := [.int (w >>> ((nI 9) &&& 31)), .int (nI 40)]) (rest := [.int (nI 99), .int (nI (aL w)), .int ((nI (lowN w 5)) - (nI 1)), .int (nI (aP v)), .ref (a 34)]) (m_L_low l (w >>> ((nI 9) &&& 31)) 40 (by decide) (by decide)) S k_L_low gL_act_L_low ⟨Nat.le_of_ble_eq_true rfl, Nat.le_of_ble_eq_true rfl⟩ rfl hl.1 (Nat.le_of_ble_eq_true rfl) rfl dL_act_309 ⟨Nat.le_of_ble_eq_true rfl, Nat.le_of_ble_eq_true rfl⟩ (fun r hr => ?_)
    subst hr
    refine lv_isub hx hb dL_act_312 ?_
    refine asi (z := nI (99 - lowN (w >>> (nI 9 &&& 31)) 40)) (pk_sub (by have := lowN_lt (w >>> (nI 9 &&& 31)) (n := 40) (by decide); omega)) ?_
    have b_j : lowN w 5 < 5 := lowN_lt _ (by decide)
    have b_h : lowN (w >>> (nI 9 &&& 31)) 40 < 40 := lowN_lt _ (by decide)
    refine acV (As := [.int (nI (aP v)), .int ((nI (lowN w 5)) - (nI 1)), .int (nI (aL w)), .int (nI (99 - lowN (w >>> (nI 9 &&& 31)) 40))]) (rest := []) (m_X8_ask l Γ _ hfl a b rf hrf f z F Z σ sc ss nb bb hX (nI (aP v)) ((nI (lowN w 5)) - (nI 1)) (nI (aL w)) (nI (99 - lowN (w >>> (nI 9 &&& 31)) 40))) (fun E => exc0 (qc0 (aP_lt v) b_j (by omega) (by omega))) hE S k_X8_ask gL_act_X8_ask rfl ⟨(Nat.le_of_ble_eq_true rfl), (Nat.le_of_ble_eq_true rfl)⟩ hK hP hD hS hA 0 (ci := 8) rfl rfl rfl rfl hl.1 (Nat.le_of_ble_eq_true rfl) rfl dL_act_313 ⟨by show _ ≤ 8; omega, by show _ ≤ 48; omega⟩ (fun r u H locs hr hP hD hS => ?_)
    simp only [nI_clamp (show aP v < 2 ^ 31 by omega), nI_clamp (show aL w < 2 ^ 31 by omega), nI_clamp (show 99 - lowN (w >>> (nI 9 &&& 31)) 40 < 2 ^ 31 by omega)] at hr
    refine W.widen (k := 8) (n := 48) (by omega) (by omega) ?_
    exact vx_ret (W.iret (v := r) hx hb hrt (fun t9 ht9 hW9 => ⟨⟨_, u, rfl, act_end (eQ.trans rfl) hr.2.1 hr.2.2, by rw [ht9]; exact hP, va_K.moved hW9.alike hK, hD⟩, hS.F ht9⟩) hS.2.2 dL_act_316 hlk)
  · refine lv_tableIn (off := 255) (tgt := 290) hx hb dL_act_35 (by decide) (by decide) (by decide) (by decide) ?_
    refine lv_aload_n hx hb dL_act_290 rfl (lv_at hl 2 rfl) ?_
    refine lv_iload_n hx hb dL_act_291 rfl (lv_at hl 1 rfl) ?_
    refine lv_iload_n hx hb dL_act_292 rfl (lv_at hl 4 rfl) ?_
    refine lv_iconst (v := nI 5) hx hb dL_act_293 (by decide) ?_
    refine cSi (As := [.int w, .int (nI 5)]) (rest := [.int (nI (aP v)), .ref (a 34)]) (m_L_low l w 5 (by decide) (by decide)) S k_L_low gL_act_L_low ⟨Nat.le_of_ble_eq_true rfl, Nat.le_of_ble_eq_true rfl⟩ rfl hl.1 (Nat.le_of_ble_eq_true rfl) rfl dL_act_294 ⟨Nat.le_of_ble_eq_true rfl, Nat.le_of_ble_eq_true rfl⟩ (fun r hr => ?_)
    subst hr
    refine lv_iconst (v := nI 1) hx hb dL_act_297 (by decide) ?_
    refine lv_isub hx hb dL_act_298 ?_
    refine lv_iload hx hb dL_act_299 (lv_at hl 0 rfl) ?_
    refine lv_bipush (v := nI 99) hx hb dL_act_301 (by decide) ?_
    refine lv_iload_n hx hb dL_act_303 rfl (lv_at hl 4 rfl) ?_
    refine lv_bipush (v := nI 9) hx hb dL_act_304 (by decide) ?_
    refine lv_ishr hx hb dL_act_306 ?_
    refine lv_bipush (v := nI 40) hx hb dL_act_307 (by decide) ?_
    refine cSi (As := [.int (w >>> ((nI 9) &&& 31)), .int (nI 40)]) (rest := [.int (nI 99), .int (nI (aL w)), .int ((nI (lowN w 5)) - (nI 1)), .int (nI (aP v)), .ref (a 34)]) (m_L_low l (w >>> ((nI 9) &&& 31)) 40 (by decide) (by decide)) S k_L_low gL_act_L_low ⟨Nat.le_of_ble_eq_true rfl, Nat.le_of_ble_eq_true rfl⟩ rfl hl.1 (Nat.le_of_ble_eq_true rfl) rfl dL_act_309 ⟨Nat.le_of_ble_eq_true rfl, Nat.le_of_ble_eq_true rfl⟩ (fun r hr => ?_)
    subst hr
    refine lv_isub hx hb dL_act_312 ?_
    refine asi (z := nI (99 - lowN (w >>> (nI 9 &&& 31)) 40)) (pk_sub (by have := lowN_lt (w >>> (nI 9 &&& 31)) (n := 40) (by decide); omega)) ?_
    have b_j : lowN w 5 < 5 := lowN_lt _ (by decide)
    have b_h : lowN (w >>> (nI 9 &&& 31)) 40 < 40 := lowN_lt _ (by decide)
    refine acV (As := [.int (nI (aP v)), .int ((nI (lowN w 5)) - (nI 1)), .int (nI (aL w)), .int (nI (99 - lowN (w >>> (nI 9 &&& 31)) 40))]) (rest := []) (m_X8_ask l Γ _ hfl a b rf hrf f z F Z σ sc ss nb bb hX (nI (aP v)) ((nI (lowN w 5)) - (nI 1)) (nI (aL w)) (nI (99 - lowN (w >>> (nI 9 &&& 31)) 40))) (fun E => exc0 (qc0 (aP_lt v) b_j (by omega) (by omega))) hE S k_X8_ask gL_act_X8_ask rfl ⟨(Nat.le_of_ble_eq_true rfl), (Nat.le_of_ble_eq_true rfl)⟩ hK hP hD hS hA 0 (ci := 8) rfl rfl rfl rfl hl.1 (Nat.le_of_ble_eq_true rfl) rfl dL_act_313 ⟨by show _ ≤ 8; omega, by show _ ≤ 48; omega⟩ (fun r u H locs hr hP hD hS => ?_)
    simp only [nI_clamp (show aP v < 2 ^ 31 by omega), nI_clamp (show aL w < 2 ^ 31 by omega), nI_clamp (show 99 - lowN (w >>> (nI 9 &&& 31)) 40 < 2 ^ 31 by omega)] at hr
    refine W.widen (k := 8) (n := 48) (by omega) (by omega) ?_
    exact vx_ret (W.iret (v := r) hx hb hrt (fun t9 ht9 hW9 => ⟨⟨_, u, rfl, act_end (eQ.trans rfl) hr.2.1 hr.2.2, by rw [ht9]; exact hP, va_K.moved hW9.alike hK, hD⟩, hS.F ht9⟩) hS.2.2 dL_act_316 hlk)
  · refine lv_tableIn (off := 255) (tgt := 290) hx hb dL_act_35 (by decide) (by decide) (by decide) (by decide) ?_
    refine lv_aload_n hx hb dL_act_290 rfl (lv_at hl 2 rfl) ?_
    refine lv_iload_n hx hb dL_act_291 rfl (lv_at hl 1 rfl) ?_
    refine lv_iload_n hx hb dL_act_292 rfl (lv_at hl 4 rfl) ?_
    refine lv_iconst (v := nI 5) hx hb dL_act_293 (by decide) ?_
    refine cSi (As := [.int w, .int (nI 5)]) (rest := [.int (nI (aP v)), .ref (a 34)]) (m_L_low l w 5 (by decide) (by decide)) S k_L_low gL_act_L_low ⟨Nat.le_of_ble_eq_true rfl, Nat.le_of_ble_eq_true rfl⟩ rfl hl.1 (Nat.le_of_ble_eq_true rfl) rfl dL_act_294 ⟨Nat.le_of_ble_eq_true rfl, Nat.le_of_ble_eq_true rfl⟩ (fun r hr => ?_)
    subst hr
    refine lv_iconst (v := nI 1) hx hb dL_act_297 (by decide) ?_
    refine lv_isub hx hb dL_act_298 ?_
    refine lv_iload hx hb dL_act_299 (lv_at hl 0 rfl) ?_
    refine lv_bipush (v := nI 99) hx hb dL_act_301 (by decide) ?_
    refine lv_iload_n hx hb dL_act_303 rfl (lv_at hl 4 rfl) ?_
    refine lv_bipush (v := nI 9) hx hb dL_act_304 (by decide) ?_
    refine lv_ishr hx hb dL_act_306 ?_
    refine lv_bipush (v := nI 40) hx hb dL_act_307 (by decide) ?_
    refine cSi (As := [.int (w >>> ((nI 9) &&& 31)), .int (nI 40)]) (rest := [.int (nI 99), .int (nI (aL w)), .int ((nI (lowN w 5)) - (nI 1)), .int (nI (aP v)), .ref (a 34)]) (m_L_low l (w >>> ((nI 9) &&& 31)) 40 (by decide) (by decide)) S k_L_low gL_act_L_low ⟨Nat.le_of_ble_eq_true rfl, Nat.le_of_ble_eq_true rfl⟩ rfl hl.1 (Nat.le_of_ble_eq_true rfl) rfl dL_act_309 ⟨Nat.le_of_ble_eq_true rfl, Nat.le_of_ble_eq_true rfl⟩ (fun r hr => ?_)
    subst hr
    refine lv_isub hx hb dL_act_312 ?_
    refine asi (z := nI (99 - lowN (w >>> (nI 9 &&& 31)) 40)) (pk_sub (by have := lowN_lt (w >>> (nI 9 &&& 31)) (n := 40) (by decide); omega)) ?_
    have b_j : lowN w 5 < 5 := lowN_lt _ (by decide)
    have b_h : lowN (w >>> (nI 9 &&& 31)) 40 < 40 := lowN_lt _ (by decide)
    refine acV (As := [.int (nI (aP v)), .int ((nI (lowN w 5)) - (nI 1)), .int (nI (aL w)), .int (nI (99 - lowN (w >>> (nI 9 &&& 31)) 40))]) (rest := []) (m_X8_ask l Γ _ hfl a b rf hrf f z F Z σ sc ss nb bb hX (nI (aP v)) ((nI (lowN w 5)) - (nI 1)) (nI (aL w)) (nI (99 - lowN (w >>> (nI 9 &&& 31)) 40))) (fun E => exc0 (qc0 (aP_lt v) b_j (by omega) (by omega))) hE S k_X8_ask gL_act_X8_ask rfl ⟨(Nat.le_of_ble_eq_true rfl), (Nat.le_of_ble_eq_true rfl)⟩ hK hP hD hS hA 0 (ci := 8) rfl rfl rfl rfl hl.1 (Nat.le_of_ble_eq_true rfl) rfl dL_act_313 ⟨by show _ ≤ 8; omega, by show _ ≤ 48; omega⟩ (fun r u H locs hr hP hD hS => ?_)
    simp only [nI_clamp (show aP v < 2 ^ 31 by omega), nI_clamp (show aL w < 2 ^ 31 by omega), nI_clamp (show 99 - lowN (w >>> (nI 9 &&& 31)) 40 < 2 ^ 31 by omega)] at hr
    refine W.widen (k := 8) (n := 48) (by omega) (by omega) ?_
    exact vx_ret (W.iret (v := r) hx hb hrt (fun t9 ht9 hW9 => ⟨⟨_, u, rfl, act_end (eQ.trans rfl) hr.2.1 hr.2.2, by rw [ht9]; exact hP, va_K.moved hW9.alike hK, hD⟩, hS.F ht9⟩) hS.2.2 dL_act_316 hlk)
  · refine lv_tableIn (off := 255) (tgt := 290) hx hb dL_act_35 (by decide) (by decide) (by decide) (by decide) ?_
    refine lv_aload_n hx hb dL_act_290 rfl (lv_at hl 2 rfl) ?_
    refine lv_iload_n hx hb dL_act_291 rfl (lv_at hl 1 rfl) ?_
    refine lv_iload_n hx hb dL_act_292 rfl (lv_at hl 4 rfl) ?_
    refine lv_iconst (v := nI 5) hx hb dL_act_293 (by decide) ?_
    refine cSi (As := [.int w, .int (nI 5)]) (rest := [.int (nI (aP v)), .ref (a 34)]) (m_L_low l w 5 (by decide) (by decide)) S k_L_low gL_act_L_low ⟨Nat.le_of_ble_eq_true rfl, Nat.le_of_ble_eq_true rfl⟩ rfl hl.1 (Nat.le_of_ble_eq_true rfl) rfl dL_act_294 ⟨Nat.le_of_ble_eq_true rfl, Nat.le_of_ble_eq_true rfl⟩ (fun r hr => ?_)
    subst hr
    refine lv_iconst (v := nI 1) hx hb dL_act_297 (by decide) ?_
    refine lv_isub hx hb dL_act_298 ?_
    refine lv_iload hx hb dL_act_299 (lv_at hl 0 rfl) ?_
    refine lv_bipush (v := nI 99) hx hb dL_act_301 (by decide) ?_
    refine lv_iload_n hx hb dL_act_303 rfl (lv_at hl 4 rfl) ?_
    refine lv_bipush (v := nI 9) hx hb dL_act_304 (by decide) ?_
    refine lv_ishr hx hb dL_act_306 ?_
    refine lv_bipush (v := nI 40) hx hb dL_act_307 (by decide) ?_
    refine cSi (As := [.int (w >>> ((nI 9) &&& 31)), .int (nI 40)]) (rest := [.int (nI 99), .int (nI (aL w)), .int ((nI (lowN w 5)) - (nI 1)), .int (nI (aP v)), .ref (a 34)]) (m_L_low l (w >>> ((nI 9) &&& 31)) 40 (by decide) (by decide)) S k_L_low gL_act_L_low ⟨Nat.le_of_ble_eq_true rfl, Nat.le_of_ble_eq_true rfl⟩ rfl hl.1 (Nat.le_of_ble_eq_true rfl) rfl dL_act_309 ⟨Nat.le_of_ble_eq_true rfl, Nat.le_of_ble_eq_true rfl⟩ (fun r hr => ?_)
    subst hr
    refine lv_isub hx hb dL_act_312 ?_
    refine asi (z := nI (99 - lowN (w >>> (nI 9 &&& 31)) 40)) (pk_sub (by have := lowN_lt (w >>> (nI 9 &&& 31)) (n := 40) (by decide); omega)) ?_
    have b_j : lowN w 5 < 5 := lowN_lt _ (by decide)
    have b_h : lowN (w >>> (nI 9 &&& 31)) 40 < 40 := lowN_lt _ (by decide)
    refine acV (As := [.int (nI (aP v)), .int ((nI (lowN w 5)) - (nI 1)), .int (nI (aL w)), .int (nI (99 - lowN (w >>> (nI 9 &&& 31)) 40))]) (rest := []) (m_X8_ask l Γ _ hfl a b rf hrf f z F Z σ sc ss nb bb hX (nI (aP v)) ((nI (lowN w 5)) - (nI 1)) (nI (aL w)) (nI (99 - lowN (w >>> (nI 9 &&& 31)) 40))) (fun E => exc0 (qc0 (aP_lt v) b_j (by omega) (by omega))) hE S k_X8_ask gL_act_X8_ask rfl ⟨(Nat.le_of_ble_eq_true rfl), (Nat.le_of_ble_eq_true rfl)⟩ hK hP hD hS hA 0 (ci := 8) rfl rfl rfl rfl hl.1 (Nat.le_of_ble_eq_true rfl) rfl dL_act_313 ⟨by show _ ≤ 8; omega, by show _ ≤ 48; omega⟩ (fun r u H locs hr hP hD hS => ?_)
    simp only [nI_clamp (show aP v < 2 ^ 31 by omega), nI_clamp (show aL w < 2 ^ 31 by omega), nI_clamp (show 99 - lowN (w >>> (nI 9 &&& 31)) 40 < 2 ^ 31 by omega)] at hr
    refine W.widen (k := 8) (n := 48) (by omega) (by omega) ?_
    exact vx_ret (W.iret (v := r) hx hb hrt (fun t9 ht9 hW9 => ⟨⟨_, u, rfl, act_end (eQ.trans rfl) hr.2.1 hr.2.2, by rw [ht9]; exact hP, va_K.moved hW9.alike hK, hD⟩, hS.F ht9⟩) hS.2.2 dL_act_316 hlk)
  · refine lv_tableOut (tgt := 317) hx hb dL_act_35 (by decide) (by decide) ?_
    refine lv_aload_n hx hb dL_act_317 rfl (lv_at hl 2 rfl) ?_
    refine lv_iconst (v := nI 0) hx hb dL_act_318 (by decide) ?_
    refine lkV (As := [.int (nI 0)]) (rest := []) (v := (nI (σ 0))) (m_X8_count l Γ _ hfl a b rf f z F Z σ hX.1 hX.2.1 (nI 0)) (fun E => exc0 (co0 (w := 0) (by decide))) (fun r h => vl_cnt (σ := σ) (z := z) (w := 0) (by decide) h) hE S k_X8_count gL_act_X8_count rfl ⟨(Nat.le_of_ble_eq_true rfl), (Nat.le_of_ble_eq_true rfl)⟩ hK hP hS hA 0 (ci := 8) rfl rfl rfl rfl hl.1 (Nat.le_of_ble_eq_true rfl) rfl dL_act_319 ⟨by show _ ≤ 8; omega, by show _ ≤ 48; omega⟩ (fun H locs hP hS1 hk9 => ?_)
    have hS := hS1
    refine lv_bipush (v := nI 16) hx hb dL_act_322 (by decide) ?_
    refine lv_icmp_ne (tgt := 332) hx hb dL_act_324 (by decide) (fun c_324 => ?_) (fun c_324 => ?_)
    · have n_324 := (not_congr (nI_eq (a := (σ 0)) (b := 16) (by omega) (by omega))).mp c_324
      refine lv_aload_n hx hb dL_act_332 rfl (lv_at hl 2 rfl) ?_
      refine lv_iload_n hx hb dL_act_333 rfl (lv_at hl 4 rfl) ?_
      refine lv_iconst (v := nI 5) hx hb dL_act_334 (by decide) ?_
      refine cSi (As := [.int w, .int (nI 5)]) (rest := [.ref (a 34)]) (m_L_low l w 5 (by decide) (by decide)) S k_L_low gL_act_L_low ⟨Nat.le_of_ble_eq_true rfl, Nat.le_of_ble_eq_true rfl⟩ rfl hl.1 (Nat.le_of_ble_eq_true rfl) rfl dL_act_335 ⟨Nat.le_of_ble_eq_true rfl, Nat.le_of_ble_eq_true rfl⟩ (fun r hr => ?_)
      subst hr
      refine lv_iload_n hx hb dL_act_338 rfl (lv_at hl 4 rfl) ?_
      refine lv_iconst (v := nI 3) hx hb dL_act_339 (by decide) ?_
      refine lv_ishr hx hb dL_act_340 ?_
      refine lv_iconst (v := nI 4) hx hb dL_act_341 (by decide) ?_
      refine cSi (As := [.int (w >>> ((nI 3) &&& 31)), .int (nI 4)]) (rest := [.int (nI (lowN w 5)), .ref (a 34)]) (m_L_low l (w >>> ((nI 3) &&& 31)) 4 (by decide) (by decide)) S k_L_low gL_act_L_low ⟨Nat.le_of_ble_eq_true rfl, Nat.le_of_ble_eq_true rfl⟩ rfl hl.1 (Nat.le_of_ble_eq_true rfl) rfl dL_act_342 ⟨Nat.le_of_ble_eq_true rfl, Nat.le_of_ble_eq_true rfl⟩ (fun r hr => ?_)
      subst hr
      refine lv_iload_n hx hb dL_act_345 rfl (lv_at hl 4 rfl) ?_
      refine lv_iconst (v := nI 5) hx hb dL_act_346 (by decide) ?_
      refine lv_ishr hx hb dL_act_347 ?_
      refine lv_bipush (v := nI 100) hx hb dL_act_348 (by decide) ?_
      refine cSi (As := [.int (w >>> ((nI 5) &&& 31)), .int (nI 100)]) (rest := [.int (nI (lowN (w >>> ((nI 3) &&& 31)) 4)), .int (nI (lowN w 5)), .ref (a 34)]) (m_L_low l (w >>> ((nI 5) &&& 31)) 100 (by decide) (by decide)) S k_L_low gL_act_L_low ⟨Nat.le_of_ble_eq_true rfl, Nat.le_of_ble_eq_true rfl⟩ rfl hl.1 (Nat.le_of_ble_eq_true rfl) rfl dL_act_350 ⟨Nat.le_of_ble_eq_true rfl, Nat.le_of_ble_eq_true rfl⟩ (fun r hr => ?_)
      subst hr
      refine lv_iload_n hx hb dL_act_353 rfl (lv_at hl 4 rfl) ?_
      refine lv_bipush (v := nI 12) hx hb dL_act_354 (by decide) ?_
      refine lv_ishr hx hb dL_act_356 ?_
      refine lv_iconst (v := nI 4) hx hb dL_act_357 (by decide) ?_
      refine cSi (As := [.int (w >>> ((nI 12) &&& 31)), .int (nI 4)]) (rest := [.int (nI (lowN (w >>> ((nI 5) &&& 31)) 100)), .int (nI (lowN (w >>> ((nI 3) &&& 31)) 4)), .int (nI (lowN w 5)), .ref (a 34)]) (m_L_low l (w >>> ((nI 12) &&& 31)) 4 (by decide) (by decide)) S k_L_low gL_act_L_low ⟨Nat.le_of_ble_eq_true rfl, Nat.le_of_ble_eq_true rfl⟩ rfl hl.1 (Nat.le_of_ble_eq_true rfl) rfl dL_act_358 ⟨Nat.le_of_ble_eq_true rfl, Nat.le_of_ble_eq_true rfl⟩ (fun r hr => ?_)
      subst hr
      have b_o : lowN w 5 < 5 := lowN_lt _ (by decide)
      have b_p : lowN (w >>> (nI 3 &&& 31)) 4 < 4 := lowN_lt _ (by decide)
      have b_v : lowN (w >>> (nI 5 &&& 31)) 100 < 100 := lowN_lt _ (by decide)
      have b_w : lowN (w >>> (nI 12 &&& 31)) 4 < 4 := lowN_lt _ (by decide)
      refine acV (As := [.int (nI (lowN w 5)), .int (nI (lowN (w >>> ((nI 3) &&& 31)) 4)), .int (nI (lowN (w >>> ((nI 5) &&& 31)) 100)), .int (nI (lowN (w >>> ((nI 12) &&& 31)) 4))]) (rest := []) (m_X8_row l Γ _ hfl a b rf hrf f z F Z σ sc ss nb bb hX (nI (lowN w 5)) (nI (lowN (w >>> ((nI 3) &&& 31)) 4)) (nI (lowN (w >>> ((nI 5) &&& 31)) 100)) (nI (lowN (w >>> ((nI 12) &&& 31)) 4))) (fun E => exc0 (ro0 b_o b_p b_v b_w n_324)) hE S k_X8_row gL_act_X8_row rfl ⟨(Nat.le_of_ble_eq_true rfl), (Nat.le_of_ble_eq_true rfl)⟩ hK hP hD hS hA 0 (ci := 8) rfl rfl rfl rfl hl.1 (Nat.le_of_ble_eq_true rfl) rfl dL_act_361 ⟨by show _ ≤ 8; omega, by show _ ≤ 48; omega⟩ (fun r u H locs hr hP hD hS => ?_)
      simp only [nI_clamp (show lowN w 5 < 2 ^ 31 by omega), nI_clamp (show lowN (w >>> (nI 3 &&& 31)) 4 < 2 ^ 31 by omega), nI_clamp (show lowN (w >>> (nI 5 &&& 31)) 100 < 2 ^ 31 by omega), nI_clamp (show lowN (w >>> (nI 12 &&& 31)) 4 < 2 ^ 31 by omega)] at hr
      refine W.widen (k := 8) (n := 48) (by omega) (by omega) ?_
      exact vx_ret (W.iret (v := r) hx hb hrt (fun t9 ht9 hW9 => ⟨⟨_, u, rfl, act_end (eQ.trans (if_neg n_324)) hr.2.1 hr.2.2, by rw [ht9]; exact hP, va_K.moved hW9.alike hK, hD⟩, hS.F ht9⟩) hS.2.2 dL_act_364 hlk)
    · have n_324 := (nI_eq (a := (σ 0)) (b := 16) (by omega) (by omega)).mp c_324
      refine lv_bipush (v := (-9)) hx hb dL_act_327 (by decide) ?_
      refine lv_goto (tgt := 364) hx hb dL_act_329 (by decide) ?_
      refine W.widen (k := 8) (n := 48) (by omega) (by omega) ?_
      exact vx_ret (W.iret (v := (-9)) hx hb hrt (fun t9 ht9 hW9 => ⟨⟨_, (f, z, F, Z), rfl, act_no (eQ.trans (if_pos n_324)) hX, by rw [ht9]; exact hP, va_K.moved hW9.alike hK, hD⟩, hS.F ht9⟩) hS.2.2 dL_act_364 hlk)
  · refine lv_tableOut (tgt := 317) hx hb dL_act_35 (by decide) (by decide) ?_
    refine lv_aload_n hx hb dL_act_317 rfl (lv_at hl 2 rfl) ?_
    refine lv_iconst (v := nI 0) hx hb dL_act_318 (by decide) ?_
    refine lkV (As := [.int (nI 0)]) (rest := []) (v := (nI (σ 0))) (m_X8_count l Γ _ hfl a b rf f z F Z σ hX.1 hX.2.1 (nI 0)) (fun E => exc0 (co0 (w := 0) (by decide))) (fun r h => vl_cnt (σ := σ) (z := z) (w := 0) (by decide) h) hE S k_X8_count gL_act_X8_count rfl ⟨(Nat.le_of_ble_eq_true rfl), (Nat.le_of_ble_eq_true rfl)⟩ hK hP hS hA 0 (ci := 8) rfl rfl rfl rfl hl.1 (Nat.le_of_ble_eq_true rfl) rfl dL_act_319 ⟨by show _ ≤ 8; omega, by show _ ≤ 48; omega⟩ (fun H locs hP hS1 hk9 => ?_)
    have hS := hS1
    refine lv_bipush (v := nI 16) hx hb dL_act_322 (by decide) ?_
    refine lv_icmp_ne (tgt := 332) hx hb dL_act_324 (by decide) (fun c_324 => ?_) (fun c_324 => ?_)
    · have n_324 := (not_congr (nI_eq (a := (σ 0)) (b := 16) (by omega) (by omega))).mp c_324
      refine lv_aload_n hx hb dL_act_332 rfl (lv_at hl 2 rfl) ?_
      refine lv_iload_n hx hb dL_act_333 rfl (lv_at hl 4 rfl) ?_
      refine lv_iconst (v := nI 5) hx hb dL_act_334 (by decide) ?_
      refine cSi (As := [.int w, .int (nI 5)]) (rest := [.ref (a 34)]) (m_L_low l w 5 (by decide) (by decide)) S k_L_low gL_act_L_low ⟨Nat.le_of_ble_eq_true rfl, Nat.le_of_ble_eq_true rfl⟩ rfl hl.1 (Nat.le_of_ble_eq_true rfl) rfl dL_act_335 ⟨Nat.le_of_ble_eq_true rfl, Nat.le_of_ble_eq_true rfl⟩ (fun r hr => ?_)
      subst hr
      refine lv_iload_n hx hb dL_act_338 rfl (lv_at hl 4 rfl) ?_
      refine lv_iconst (v := nI 3) hx hb dL_act_339 (by decide) ?_
      refine lv_ishr hx hb dL_act_340 ?_
      refine lv_iconst (v := nI 4) hx hb dL_act_341 (by decide) ?_
      refine cSi (As := [.int (w >>> ((nI 3) &&& 31)), .int (nI 4)]) (rest := [.int (nI (lowN w 5)), .ref (a 34)]) (m_L_low l (w >>> ((nI 3) &&& 31)) 4 (by decide) (by decide)) S k_L_low gL_act_L_low ⟨Nat.le_of_ble_eq_true rfl, Nat.le_of_ble_eq_true rfl⟩ rfl hl.1 (Nat.le_of_ble_eq_true rfl) rfl dL_act_342 ⟨Nat.le_of_ble_eq_true rfl, Nat.le_of_ble_eq_true rfl⟩ (fun r hr => ?_)
      subst hr
      refine lv_iload_n hx hb dL_act_345 rfl (lv_at hl 4 rfl) ?_
      refine lv_iconst (v := nI 5) hx hb dL_act_346 (by decide) ?_
      refine lv_ishr hx hb dL_act_347 ?_
      refine lv_bipush (v := nI 100) hx hb dL_act_348 (by decide) ?_
      refine cSi (As := [.int (w >>> ((nI 5) &&& 31)), .int (nI 100)]) (rest := [.int (nI (lowN (w >>> ((nI 3) &&& 31)) 4)), .int (nI (lowN w 5)), .ref (a 34)]) (m_L_low l (w >>> ((nI 5) &&& 31)) 100 (by decide) (by decide)) S k_L_low gL_act_L_low ⟨Nat.le_of_ble_eq_true rfl, Nat.le_of_ble_eq_true rfl⟩ rfl hl.1 (Nat.le_of_ble_eq_true rfl) rfl dL_act_350 ⟨Nat.le_of_ble_eq_true rfl, Nat.le_of_ble_eq_true rfl⟩ (fun r hr => ?_)
      subst hr
      refine lv_iload_n hx hb dL_act_353 rfl (lv_at hl 4 rfl) ?_
      refine lv_bipush (v := nI 12) hx hb dL_act_354 (by decide) ?_
      refine lv_ishr hx hb dL_act_356 ?_
      refine lv_iconst (v := nI 4) hx hb dL_act_357 (by decide) ?_
      refine cSi (As := [.int (w >>> ((nI 12) &&& 31)), .int (nI 4)]) (rest := [.int (nI (lowN (w >>> ((nI 5) &&& 31)) 100)), .int (nI (lowN (w >>> ((nI 3) &&& 31)) 4)), .int (nI (lowN w 5)), .ref (a 34)]) (m_L_low l (w >>> ((nI 12) &&& 31)) 4 (by decide) (by decide)) S k_L_low gL_act_L_low ⟨Nat.le_of_ble_eq_true rfl, Nat.le_of_ble_eq_true rfl⟩ rfl hl.1 (Nat.le_of_ble_eq_true rfl) rfl dL_act_358 ⟨Nat.le_of_ble_eq_true rfl, Nat.le_of_ble_eq_true rfl⟩ (fun r hr => ?_)
      subst hr
      have b_o : lowN w 5 < 5 := lowN_lt _ (by decide)
      have b_p : lowN (w >>> (nI 3 &&& 31)) 4 < 4 := lowN_lt _ (by decide)
      have b_v : lowN (w >>> (nI 5 &&& 31)) 100 < 100 := lowN_lt _ (by decide)
      have b_w : lowN (w >>> (nI 12 &&& 31)) 4 < 4 := lowN_lt _ (by decide)
      refine acV (As := [.int (nI (lowN w 5)), .int (nI (lowN (w >>> ((nI 3) &&& 31)) 4)), .int (nI (lowN (w >>> ((nI 5) &&& 31)) 100)), .int (nI (lowN (w >>> ((nI 12) &&& 31)) 4))]) (rest := []) (m_X8_row l Γ _ hfl a b rf hrf f z F Z σ sc ss nb bb hX (nI (lowN w 5)) (nI (lowN (w >>> ((nI 3) &&& 31)) 4)) (nI (lowN (w >>> ((nI 5) &&& 31)) 100)) (nI (lowN (w >>> ((nI 12) &&& 31)) 4))) (fun E => exc0 (ro0 b_o b_p b_v b_w n_324)) hE S k_X8_row gL_act_X8_row rfl ⟨(Nat.le_of_ble_eq_true rfl), (Nat.le_of_ble_eq_true rfl)⟩ hK hP hD hS hA 0 (ci := 8) rfl rfl rfl rfl hl.1 (Nat.le_of_ble_eq_true rfl) rfl dL_act_361 ⟨by show _ ≤ 8; omega, by show _ ≤ 48; omega⟩ (fun r u H locs hr hP hD hS => ?_)
      simp only [nI_clamp (show lowN w 5 < 2 ^ 31 by omega), nI_clamp (show lowN (w >>> (nI 3 &&& 31)) 4 < 2 ^ 31 by omega), nI_clamp (show lowN (w >>> (nI 5 &&& 31)) 100 < 2 ^ 31 by omega), nI_clamp (show lowN (w >>> (nI 12 &&& 31)) 4 < 2 ^ 31 by omega)] at hr
      refine W.widen (k := 8) (n := 48) (by omega) (by omega) ?_
      exact vx_ret (W.iret (v := r) hx hb hrt (fun t9 ht9 hW9 => ⟨⟨_, u, rfl, act_end (eQ.trans (if_neg n_324)) hr.2.1 hr.2.2, by rw [ht9]; exact hP, va_K.moved hW9.alike hK, hD⟩, hS.F ht9⟩) hS.2.2 dL_act_364 hlk)
    · have n_324 := (nI_eq (a := (σ 0)) (b := 16) (by omega) (by omega)).mp c_324
      refine lv_bipush (v := (-9)) hx hb dL_act_327 (by decide) ?_
      refine lv_goto (tgt := 364) hx hb dL_act_329 (by decide) ?_
      refine W.widen (k := 8) (n := 48) (by omega) (by omega) ?_
      exact vx_ret (W.iret (v := (-9)) hx hb hrt (fun t9 ht9 hW9 => ⟨⟨_, (f, z, F, Z), rfl, act_no (eQ.trans (if_pos n_324)) hX, by rw [ht9]; exact hP, va_K.moved hW9.alike hK, hD⟩, hS.F ht9⟩) hS.2.2 dL_act_364 hlk)
  · refine lv_tableOut (tgt := 317) hx hb dL_act_35 (by decide) (by decide) ?_
    refine lv_aload_n hx hb dL_act_317 rfl (lv_at hl 2 rfl) ?_
    refine lv_iconst (v := nI 0) hx hb dL_act_318 (by decide) ?_
    refine lkV (As := [.int (nI 0)]) (rest := []) (v := (nI (σ 0))) (m_X8_count l Γ _ hfl a b rf f z F Z σ hX.1 hX.2.1 (nI 0)) (fun E => exc0 (co0 (w := 0) (by decide))) (fun r h => vl_cnt (σ := σ) (z := z) (w := 0) (by decide) h) hE S k_X8_count gL_act_X8_count rfl ⟨(Nat.le_of_ble_eq_true rfl), (Nat.le_of_ble_eq_true rfl)⟩ hK hP hS hA 0 (ci := 8) rfl rfl rfl rfl hl.1 (Nat.le_of_ble_eq_true rfl) rfl dL_act_319 ⟨by show _ ≤ 8; omega, by show _ ≤ 48; omega⟩ (fun H locs hP hS1 hk9 => ?_)
    have hS := hS1
    refine lv_bipush (v := nI 16) hx hb dL_act_322 (by decide) ?_
    refine lv_icmp_ne (tgt := 332) hx hb dL_act_324 (by decide) (fun c_324 => ?_) (fun c_324 => ?_)
    · have n_324 := (not_congr (nI_eq (a := (σ 0)) (b := 16) (by omega) (by omega))).mp c_324
      refine lv_aload_n hx hb dL_act_332 rfl (lv_at hl 2 rfl) ?_
      refine lv_iload_n hx hb dL_act_333 rfl (lv_at hl 4 rfl) ?_
      refine lv_iconst (v := nI 5) hx hb dL_act_334 (by decide) ?_
      refine cSi (As := [.int w, .int (nI 5)]) (rest := [.ref (a 34)]) (m_L_low l w 5 (by decide) (by decide)) S k_L_low gL_act_L_low ⟨Nat.le_of_ble_eq_true rfl, Nat.le_of_ble_eq_true rfl⟩ rfl hl.1 (Nat.le_of_ble_eq_true rfl) rfl dL_act_335 ⟨Nat.le_of_ble_eq_true rfl, Nat.le_of_ble_eq_true rfl⟩ (fun r hr => ?_)
      subst hr
      refine lv_iload_n hx hb dL_act_338 rfl (lv_at hl 4 rfl) ?_
      refine lv_iconst (v := nI 3) hx hb dL_act_339 (by decide) ?_
      refine lv_ishr hx hb dL_act_340 ?_
      refine lv_iconst (v := nI 4) hx hb dL_act_341 (by decide) ?_
      refine cSi (As := [.int (w >>> ((nI 3) &&& 31)), .int (nI 4)]) (rest := [.int (nI (lowN w 5)), .ref (a 34)]) (m_L_low l (w >>> ((nI 3) &&& 31)) 4 (by decide) (by decide)) S k_L_low gL_act_L_low ⟨Nat.le_of_ble_eq_true rfl, Nat.le_of_ble_eq_true rfl⟩ rfl hl.1 (Nat.le_of_ble_eq_true rfl) rfl dL_act_342 ⟨Nat.le_of_ble_eq_true rfl, Nat.le_of_ble_eq_true rfl⟩ (fun r hr => ?_)
      subst hr
      refine lv_iload_n hx hb dL_act_345 rfl (lv_at hl 4 rfl) ?_
      refine lv_iconst (v := nI 5) hx hb dL_act_346 (by decide) ?_
      refine lv_ishr hx hb dL_act_347 ?_
      refine lv_bipush (v := nI 100) hx hb dL_act_348 (by decide) ?_
      refine cSi (As := [.int (w >>> ((nI 5) &&& 31)), .int (nI 100)]) (rest := [.int (nI (lowN (w >>> ((nI 3) &&& 31)) 4)), .int (nI (lowN w 5)), .ref (a 34)]) (m_L_low l (w >>> ((nI 5) &&& 31)) 100 (by decide) (by decide)) S k_L_low gL_act_L_low ⟨Nat.le_of_ble_eq_true rfl, Nat.le_of_ble_eq_true rfl⟩ rfl hl.1 (Nat.le_of_ble_eq_true rfl) rfl dL_act_350 ⟨Nat.le_of_ble_eq_true rfl, Nat.le_of_ble_eq_true rfl⟩ (fun r hr => ?_)
      subst hr
      refine lv_iload_n hx hb dL_act_353 rfl (lv_at hl 4 rfl) ?_
      refine lv_bipush (v := nI 12) hx hb dL_act_354 (by decide) ?_
      refine lv_ishr hx hb dL_act_356 ?_
      refine lv_iconst (v := nI 4) hx hb dL_act_357 (by decide) ?_
      refine cSi (As := [.int (w >>> ((nI 12) &&& 31)), .int (nI 4)]) (rest := [.int (nI (lowN (w >>> ((nI 5) &&& 31)) 100)), .int (nI (lowN (w >>> ((nI 3) &&& 31)) 4)), .int (nI (lowN w 5)), .ref (a 34)]) (m_L_low l (w >>> ((nI 12) &&& 31)) 4 (by decide) (by decide)) S k_L_low gL_act_L_low ⟨Nat.le_of_ble_eq_true rfl, Nat.le_of_ble_eq_true rfl⟩ rfl hl.1 (Nat.le_of_ble_eq_true rfl) rfl dL_act_358 ⟨Nat.le_of_ble_eq_true rfl, Nat.le_of_ble_eq_true rfl⟩ (fun r hr => ?_)
      subst hr
      have b_o : lowN w 5 < 5 := lowN_lt _ (by decide)
      have b_p : lowN (w >>> (nI 3 &&& 31)) 4 < 4 := lowN_lt _ (by decide)
      have b_v : lowN (w >>> (nI 5 &&& 31)) 100 < 100 := lowN_lt _ (by decide)
      have b_w : lowN (w >>> (nI 12 &&& 31)) 4 < 4 := lowN_lt _ (by decide)
      refine acV (As := [.int (nI (lowN w 5)), .int (nI (lowN (w >>> ((nI 3) &&& 31)) 4)), .int (nI (lowN (w >>> ((nI 5) &&& 31)) 100)), .int (nI (lowN (w >>> ((nI 12) &&& 31)) 4))]) (rest := []) (m_X8_row l Γ _ hfl a b rf hrf f z F Z σ sc ss nb bb hX (nI (lowN w 5)) (nI (lowN (w >>> ((nI 3) &&& 31)) 4)) (nI (lowN (w >>> ((nI 5) &&& 31)) 100)) (nI (lowN (w >>> ((nI 12) &&& 31)) 4))) (fun E => exc0 (ro0 b_o b_p b_v b_w n_324)) hE S k_X8_row gL_act_X8_row rfl ⟨(Nat.le_of_ble_eq_true rfl), (Nat.le_of_ble_eq_true rfl)⟩ hK hP hD hS hA 0 (ci := 8) rfl rfl rfl rfl hl.1 (Nat.le_of_ble_eq_true rfl) rfl dL_act_361 ⟨by show _ ≤ 8; omega, by show _ ≤ 48; omega⟩ (fun r u H locs hr hP hD hS => ?_)
      simp only [nI_clamp (show lowN w 5 < 2 ^ 31 by omega), nI_clamp (show lowN (w >>> (nI 3 &&& 31)) 4 < 2 ^ 31 by omega), nI_clamp (show lowN (w >>> (nI 5 &&& 31)) 100 < 2 ^ 31 by omega), nI_clamp (show lowN (w >>> (nI 12 &&& 31)) 4 < 2 ^ 31 by omega)] at hr
      refine W.widen (k := 8) (n := 48) (by omega) (by omega) ?_
      exact vx_ret (W.iret (v := r) hx hb hrt (fun t9 ht9 hW9 => ⟨⟨_, u, rfl, act_end (eQ.trans (if_neg n_324)) hr.2.1 hr.2.2, by rw [ht9]; exact hP, va_K.moved hW9.alike hK, hD⟩, hS.F ht9⟩) hS.2.2 dL_act_364 hlk)
    · have n_324 := (nI_eq (a := (σ 0)) (b := 16) (by omega) (by omega)).mp c_324
      refine lv_bipush (v := (-9)) hx hb dL_act_327 (by decide) ?_
      refine lv_goto (tgt := 364) hx hb dL_act_329 (by decide) ?_
      refine W.widen (k := 8) (n := 48) (by omega) (by omega) ?_
      exact vx_ret (W.iret (v := (-9)) hx hb hrt (fun t9 ht9 hW9 => ⟨⟨_, (f, z, F, Z), rfl, act_no (eQ.trans (if_pos n_324)) hX, by rw [ht9]; exact hP, va_K.moved hW9.alike hK, hD⟩, hS.F ht9⟩) hS.2.2 dL_act_364 hlk)
  · refine lv_tableOut (tgt := 317) hx hb dL_act_35 (by decide) (by decide) ?_
    refine lv_aload_n hx hb dL_act_317 rfl (lv_at hl 2 rfl) ?_
    refine lv_iconst (v := nI 0) hx hb dL_act_318 (by decide) ?_
    refine lkV (As := [.int (nI 0)]) (rest := []) (v := (nI (σ 0))) (m_X8_count l Γ _ hfl a b rf f z F Z σ hX.1 hX.2.1 (nI 0)) (fun E => exc0 (co0 (w := 0) (by decide))) (fun r h => vl_cnt (σ := σ) (z := z) (w := 0) (by decide) h) hE S k_X8_count gL_act_X8_count rfl ⟨(Nat.le_of_ble_eq_true rfl), (Nat.le_of_ble_eq_true rfl)⟩ hK hP hS hA 0 (ci := 8) rfl rfl rfl rfl hl.1 (Nat.le_of_ble_eq_true rfl) rfl dL_act_319 ⟨by show _ ≤ 8; omega, by show _ ≤ 48; omega⟩ (fun H locs hP hS1 hk9 => ?_)
    have hS := hS1
    refine lv_bipush (v := nI 16) hx hb dL_act_322 (by decide) ?_
    refine lv_icmp_ne (tgt := 332) hx hb dL_act_324 (by decide) (fun c_324 => ?_) (fun c_324 => ?_)
    · have n_324 := (not_congr (nI_eq (a := (σ 0)) (b := 16) (by omega) (by omega))).mp c_324
      refine lv_aload_n hx hb dL_act_332 rfl (lv_at hl 2 rfl) ?_
      refine lv_iload_n hx hb dL_act_333 rfl (lv_at hl 4 rfl) ?_
      refine lv_iconst (v := nI 5) hx hb dL_act_334 (by decide) ?_
      refine cSi (As := [.int w, .int (nI 5)]) (rest := [.ref (a 34)]) (m_L_low l w 5 (by decide) (by decide)) S k_L_low gL_act_L_low ⟨Nat.le_of_ble_eq_true rfl, Nat.le_of_ble_eq_true rfl⟩ rfl hl.1 (Nat.le_of_ble_eq_true rfl) rfl dL_act_335 ⟨Nat.le_of_ble_eq_true rfl, Nat.le_of_ble_eq_true rfl⟩ (fun r hr => ?_)
      subst hr
      refine lv_iload_n hx hb dL_act_338 rfl (lv_at hl 4 rfl) ?_
      refine lv_iconst (v := nI 3) hx hb dL_act_339 (by decide) ?_
      refine lv_ishr hx hb dL_act_340 ?_
      refine lv_iconst (v := nI 4) hx hb dL_act_341 (by decide) ?_
      refine cSi (As := [.int (w >>> ((nI 3) &&& 31)), .int (nI 4)]) (rest := [.int (nI (lowN w 5)), .ref (a 34)]) (m_L_low l (w >>> ((nI 3) &&& 31)) 4 (by decide) (by decide)) S k_L_low gL_act_L_low ⟨Nat.le_of_ble_eq_true rfl, Nat.le_of_ble_eq_true rfl⟩ rfl hl.1 (Nat.le_of_ble_eq_true rfl) rfl dL_act_342 ⟨Nat.le_of_ble_eq_true rfl, Nat.le_of_ble_eq_true rfl⟩ (fun r hr => ?_)
      subst hr
      refine lv_iload_n hx hb dL_act_345 rfl (lv_at hl 4 rfl) ?_
      refine lv_iconst (v := nI 5) hx hb dL_act_346 (by decide) ?_
      refine lv_ishr hx hb dL_act_347 ?_
      refine lv_bipush (v := nI 100) hx hb dL_act_348 (by decide) ?_
      refine cSi (As := [.int (w >>> ((nI 5) &&& 31)), .int (nI 100)]) (rest := [.int (nI (lowN (w >>> ((nI 3) &&& 31)) 4)), .int (nI (lowN w 5)), .ref (a 34)]) (m_L_low l (w >>> ((nI 5) &&& 31)) 100 (by decide) (by decide)) S k_L_low gL_act_L_low ⟨Nat.le_of_ble_eq_true rfl, Nat.le_of_ble_eq_true rfl⟩ rfl hl.1 (Nat.le_of_ble_eq_true rfl) rfl dL_act_350 ⟨Nat.le_of_ble_eq_true rfl, Nat.le_of_ble_eq_true rfl⟩ (fun r hr => ?_)
      subst hr
      refine lv_iload_n hx hb dL_act_353 rfl (lv_at hl 4 rfl) ?_
      refine lv_bipush (v := nI 12) hx hb dL_act_354 (by decide) ?_
      refine lv_ishr hx hb dL_act_356 ?_
      refine lv_iconst (v := nI 4) hx hb dL_act_357 (by decide) ?_
      refine cSi (As := [.int (w >>> ((nI 12) &&& 31)), .int (nI 4)]) (rest := [.int (nI (lowN (w >>> ((nI 5) &&& 31)) 100)), .int (nI (lowN (w >>> ((nI 3) &&& 31)) 4)), .int (nI (lowN w 5)), .ref (a 34)]) (m_L_low l (w >>> ((nI 12) &&& 31)) 4 (by decide) (by decide)) S k_L_low gL_act_L_low ⟨Nat.le_of_ble_eq_true rfl, Nat.le_of_ble_eq_true rfl⟩ rfl hl.1 (Nat.le_of_ble_eq_true rfl) rfl dL_act_358 ⟨Nat.le_of_ble_eq_true rfl, Nat.le_of_ble_eq_true rfl⟩ (fun r hr => ?_)
      subst hr
      have b_o : lowN w 5 < 5 := lowN_lt _ (by decide)
      have b_p : lowN (w >>> (nI 3 &&& 31)) 4 < 4 := lowN_lt _ (by decide)
      have b_v : lowN (w >>> (nI 5 &&& 31)) 100 < 100 := lowN_lt _ (by decide)
      have b_w : lowN (w >>> (nI 12 &&& 31)) 4 < 4 := lowN_lt _ (by decide)
      refine acV (As := [.int (nI (lowN w 5)), .int (nI (lowN (w >>> ((nI 3) &&& 31)) 4)), .int (nI (lowN (w >>> ((nI 5) &&& 31)) 100)), .int (nI (lowN (w >>> ((nI 12) &&& 31)) 4))]) (rest := []) (m_X8_row l Γ _ hfl a b rf hrf f z F Z σ sc ss nb bb hX (nI (lowN w 5)) (nI (lowN (w >>> ((nI 3) &&& 31)) 4)) (nI (lowN (w >>> ((nI 5) &&& 31)) 100)) (nI (lowN (w >>> ((nI 12) &&& 31)) 4))) (fun E => exc0 (ro0 b_o b_p b_v b_w n_324)) hE S k_X8_row gL_act_X8_row rfl ⟨(Nat.le_of_ble_eq_true rfl), (Nat.le_of_ble_eq_true rfl)⟩ hK hP hD hS hA 0 (ci := 8) rfl rfl rfl rfl hl.1 (Nat.le_of_ble_eq_true rfl) rfl dL_act_361 ⟨by show _ ≤ 8; omega, by show _ ≤ 48; omega⟩ (fun r u H locs hr hP hD hS => ?_)
      simp only [nI_clamp (show lowN w 5 < 2 ^ 31 by omega), nI_clamp (show lowN (w >>> (nI 3 &&& 31)) 4 < 2 ^ 31 by omega), nI_clamp (show lowN (w >>> (nI 5 &&& 31)) 100 < 2 ^ 31 by omega), nI_clamp (show lowN (w >>> (nI 12 &&& 31)) 4 < 2 ^ 31 by omega)] at hr
      refine W.widen (k := 8) (n := 48) (by omega) (by omega) ?_
      exact vx_ret (W.iret (v := r) hx hb hrt (fun t9 ht9 hW9 => ⟨⟨_, u, rfl, act_end (eQ.trans (if_neg n_324)) hr.2.1 hr.2.2, by rw [ht9]; exact hP, va_K.moved hW9.alike hK, hD⟩, hS.F ht9⟩) hS.2.2 dL_act_364 hlk)
    · have n_324 := (nI_eq (a := (σ 0)) (b := 16) (by omega) (by omega)).mp c_324
      refine lv_bipush (v := (-9)) hx hb dL_act_327 (by decide) ?_
      refine lv_goto (tgt := 364) hx hb dL_act_329 (by decide) ?_
      refine W.widen (k := 8) (n := 48) (by omega) (by omega) ?_
      exact vx_ret (W.iret (v := (-9)) hx hb hrt (fun t9 ht9 hW9 => ⟨⟨_, (f, z, F, Z), rfl, act_no (eQ.trans (if_pos n_324)) hX, by rw [ht9]; exact hP, va_K.moved hW9.alike hK, hD⟩, hS.F ht9⟩) hS.2.2 dL_act_364 hlk)

