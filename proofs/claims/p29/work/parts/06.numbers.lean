abbrev rm_X3_get : Room := { frames := 0, cells := 0, slots := 0, locals := 0 }
theorem k_X3_get : Cal yX3_get wsX3_get rm_X3_get cX3_get 2 (some .int) 1 0 0 := ⟨⟨_, rfl⟩, rfl, rfl, by decide +kernel⟩
set_option maxHeartbeats 4000000 in
set_option maxRecDepth 100000 in
theorem m_X3_get (l : Launch) (Γ : Gm) (h a n j : Nat) (g : Nat → Int32) (hn : n < 2 ^ 31) (hj : j < n) : MRi l yX3_get wsX3_get rm_X3_get Γ [(h, .inr (3, [.ref a])), (a, .inl (Γ.2.1, n, .inl g))] [.ref h, .int (nI j)] (fun r => r = g j) := by
  refine mR (cc := cX3_get) (maxL := 2) (ret := (some .int)) (own := RX3) (by decide) rfl rfl (Nat.le_of_ble_eq_true rfl) ?_
  intro p e s m args below meth c S hrt hlk hK hP ls hl
  obtain ⟨hx, hb, hml, hown, hts⟩ := id S
  have hl : lv_has ls 2 [(0, .ref h), (1, .int (nI j))] := hl
  have hP : gP Γ [(h, .inr (3, [.ref a])), (a, .inl (Γ.2.1, n, .inl g))] s.heap := hP
  refine lv_iload_n hx hb dX3_get_0 rfl (lv_at hl 1 rfl) ?_
  refine lv_if_lt (tgt := 22) hx hb dX3_get_1 (by decide) (fun c_1 => ?_) (fun c_1 => ?_)
  · have n_1 := (nI_ltI (a := j) (b := 0) (by omega) (by omega)).mp c_1
    exact absurd n_1 (by omega)
  · have n_1 := (not_congr (nI_ltI (a := j) (b := 0) (by omega) (by omega))).mp c_1
    refine lv_iload_n hx hb dX3_get_4 rfl (lv_at hl 1 rfl) ?_
    refine lv_aload_n hx hb dX3_get_5 rfl (lv_at hl 0 rfl) ?_
    refine va_get (D := Γ.1) (ci := 3) (v := .ref a) (C := RX3) (T := TX3) (N := 1) hx hb hts (by decide +kernel) hown hK hP 0 rfl rfl 0 (by decide) (hts (.fieldLink RX3 7 "RowVeils$Numbers" "held" "[I") (by decide +kernel)) (fun _ h9 => h9) rfl dX3_get_6 ?_
    refine va_alen (v := nI n) hx hb hK hP 1 0 rfl rfl rfl dX3_get_9 ?_
    refine lv_icmp_ge (tgt := 22) hx hb dX3_get_10 (by decide) (fun c_10 => ?_) (fun c_10 => ?_)
    · have n_10 := (nI_leI (a := n) (b := j) (by omega) (by omega)).mp c_10
      exact absurd n_10 (by omega)
    · have n_10 := (not_congr (nI_leI (a := n) (b := j) (by omega) (by omega))).mp c_10
      refine lv_aload_n hx hb dX3_get_13 rfl (lv_at hl 0 rfl) ?_
      refine va_get (D := Γ.1) (ci := 3) (v := .ref a) (C := RX3) (T := TX3) (N := 1) hx hb hts (by decide +kernel) hown hK hP 0 rfl rfl 0 (by decide) (hts (.fieldLink RX3 7 "RowVeils$Numbers" "held" "[I") (by decide +kernel)) (fun _ h9 => h9) rfl dX3_get_14 ?_
      refine lv_iload_n hx hb dX3_get_17 rfl (lv_at hl 1 rfl) ?_
      refine va_iald hx hb hK hP 1 0 rfl rfl (vp_in_nI (by omega) (by omega)) dX3_get_18 ?_
      refine asi (z := g j) (congrArg _ (nI_clamp (by omega))) ?_
      refine lv_goto (tgt := 23) hx hb dX3_get_19 (by decide) ?_
      exact W.iret (v := g j) hx hb hrt (fun t9 ht9 hW9 => ⟨_, rfl, rfl, ht9⟩) (fun _ h9 => nomatch h9) dX3_get_23 hlk

abbrev rm_X3_put : Room := { frames := 0, cells := 0, slots := 0, locals := 0 }
theorem k_X3_put : Cal yX3_put wsX3_put rm_X3_put cX3_put 3 none 2 0 0 := ⟨⟨_, rfl⟩, rfl, rfl, by decide +kernel⟩
set_option maxHeartbeats 4000000 in
set_option maxRecDepth 100000 in
theorem m_X3_put (l : Launch) (Γ : Gm) (sz : Nat) (h a n j : Nat) (g : Nat → Int32) (hn : n < 2 ^ 31) (hj : j < n) (v : Int32) : MWv (S := Unit) l yX3_put wsX3_put rm_X3_put Γ sz [(h, .inr (3, [.ref a])), (a, .inl (Γ.2.1, n, .inl g))] [.ref h, .int (nI j), .int v] (fun u => True) (fun u => [(h, .inr (3, [.ref a])), (a, .inl (Γ.2.1, n, .inl (upd g j v)))]) 0 0 := by
  refine mW (cc := cX3_put) (maxL := 3) (ret := none) (own := RX3) (by decide) rfl rfl (Nat.le_of_ble_eq_true rfl) ?_
  intro p e s m args below meth c S hrt hlk hin hsz hK hP hD hA hS ls hl
  subst hsz
  generalize hAe : va_A ([(h, .inr (3, [.ref a])), (a, .inl (Γ.2.1, n, .inl g))]) s.heap.size = A at hD hA hS ⊢
  obtain ⟨hx, hb, hml, hown, hts⟩ := id S
  have hl : lv_has ls 3 [(0, .ref h), (1, .int (nI j)), (2, .int v)] := hl
  have hH : s.heap = s.heap := rfl
  refine lv_iload_n hx hb dX3_put_0 rfl (lv_at hl 1 rfl) ?_
  refine lv_if_lt (tgt := 20) hx hb dX3_put_1 (by decide) (fun c_1 => ?_) (fun c_1 => ?_)
  · have n_1 := (nI_ltI (a := j) (b := 0) (by omega) (by omega)).mp c_1
    exact absurd n_1 (by omega)
  · have n_1 := (not_congr (nI_ltI (a := j) (b := 0) (by omega) (by omega))).mp c_1
    refine lv_iload_n hx hb dX3_put_4 rfl (lv_at hl 1 rfl) ?_
    refine lv_aload_n hx hb dX3_put_5 rfl (lv_at hl 0 rfl) ?_
    refine va_get (D := Γ.1) (ci := 3) (v := .ref a) (C := RX3) (T := TX3) (N := 1) hx hb hts (by decide +kernel) hown hK hP 0 rfl rfl 0 (by decide) (hts (.fieldLink RX3 7 "RowVeils$Numbers" "held" "[I") (by decide +kernel)) (fun _ h9 => h9) rfl dX3_put_6 ?_
    refine va_alen (v := nI n) hx hb hK hP 1 0 rfl rfl rfl dX3_put_9 ?_
    refine lv_icmp_ge (tgt := 20) hx hb dX3_put_10 (by decide) (fun c_10 => ?_) (fun c_10 => ?_)
    · have n_10 := (nI_leI (a := n) (b := j) (by omega) (by omega)).mp c_10
      exact absurd n_10 (by omega)
    · have n_10 := (not_congr (nI_leI (a := n) (b := j) (by omega) (by omega))).mp c_10
      refine lv_aload_n hx hb dX3_put_13 rfl (lv_at hl 0 rfl) ?_
      refine va_get (D := Γ.1) (ci := 3) (v := .ref a) (C := RX3) (T := TX3) (N := 1) hx hb hts (by decide +kernel) hown hK hP 0 rfl rfl 0 (by decide) (hts (.fieldLink RX3 7 "RowVeils$Numbers" "held" "[I") (by decide +kernel)) (fun _ h9 => h9) rfl dX3_put_14 ?_
      refine lv_iload_n hx hb dX3_put_17 rfl (lv_at hl 1 rfl) ?_
      refine lv_iload_n hx hb dX3_put_18 rfl (lv_at hl 2 rfl) ?_
      refine va_iast hx hb hK hP hD hS 1 0 rfl rfl (vp_in_nI (by omega) (by omega)) dX3_put_19 (fun H locs hP hD hS => ?_)
      have ec : (nI j).toNatClampNeg = j := nI_clamp (by omega)
      rw [ec] at hP hD
      clear ec
      have hP : gP Γ [(h, .inr (3, [.ref a])), (a, .inl (Γ.2.1, n, .inl (upd g j v)))] H := hP
      have hD : va_D A [(h, .inr (3, [.ref a])), (a, .inl (Γ.2.1, n, .inl (upd g j v)))] := hD
      exact W.vret hx hb hrt (fun t9 ht9 hW9 => ⟨⟨(), rfl, trivial, wd_end hK hP hD [0, 1] (by decide) rfl t9 ht9 hW9⟩, hS.F ht9⟩) hS.2.2 dX3_put_20 hlk

abbrev rm_X3_swap : Room := { frames := 1, cells := 0, slots := 0, locals := 22 }
theorem k_X3_swap : Cal yX3_swap wsX3_swap rm_X3_swap cX3_swap 4 (some .int) 2 0 0 := ⟨⟨_, rfl⟩, rfl, rfl, by decide +kernel⟩
set_option maxHeartbeats 4000000 in
set_option maxRecDepth 100000 in
theorem m_X3_swap (l : Launch) (Γ : Gm) (sz : Nat) (h a n j : Nat) (g : Nat → Int32) (hn : n < 2 ^ 31) (hj : j < n) (v : Int32) : MWi (S := Unit) l yX3_swap wsX3_swap rm_X3_swap Γ sz [(h, .inr (3, [.ref a])), (a, .inl (Γ.2.1, n, .inl g))] [.ref h, .int (nI j), .int v] (fun r u => r = g j) (fun u => [(h, .inr (3, [.ref a])), (a, .inl (Γ.2.1, n, .inl (upd g j v)))]) 0 0 := by
  refine mW (cc := cX3_swap) (maxL := 4) (ret := (some .int)) (own := RX3) (by decide) rfl rfl (Nat.le_of_ble_eq_true rfl) ?_
  intro p e s m args below meth c S hrt hlk hin hsz hK hP hD hA hS ls hl
  subst hsz
  generalize hAe : va_A ([(h, .inr (3, [.ref a])), (a, .inl (Γ.2.1, n, .inl g))]) s.heap.size = A at hD hA hS ⊢
  obtain ⟨hx, hb, hml, hown, hts⟩ := id S
  have hl : lv_has ls 4 [(0, .ref h), (1, .int (nI j)), (2, .int v)] := hl
  have hH : s.heap = s.heap := rfl
  refine lv_aload_n hx hb dX3_swap_0 rfl (lv_at hl 0 rfl) ?_
  refine lv_iload_n hx hb dX3_swap_1 rfl (lv_at hl 1 rfl) ?_
  refine cRi (As := [.int (nI j)]) (rest := []) (m_X3_get l Γ h a n j g (by omega) (by omega)) S k_X3_get gX3_swap_X3_get rfl ⟨Nat.le_of_ble_eq_true rfl, Nat.le_of_ble_eq_true rfl⟩ hK hP [0, 1] rfl 0 (ci := 3) rfl rfl rfl rfl hl.1 (Nat.le_of_ble_eq_true rfl) rfl dX3_swap_2 ⟨Nat.le_of_ble_eq_true rfl, Nat.le_of_ble_eq_true rfl⟩ (fun r hr => ?_)
  subst hr
  refine lv_istore_n (lv' := [(3, .int (g j)), (0, .ref h), (1, .int (nI j)), (2, .int v)]) hx hb dX3_swap_5 rfl hl (by decide) rfl (fun ls hl => ?_)
  refine lv_aload_n hx hb dX3_swap_6 rfl (lv_at hl 1 rfl) ?_
  refine lv_iload_n hx hb dX3_swap_7 rfl (lv_at hl 2 rfl) ?_
  refine lv_iload_n hx hb dX3_swap_8 rfl (lv_at hl 3 rfl) ?_
  refine cWv (As := [.int (nI j), .int v]) (rest := []) (wr := []) (m_X3_put l Γ _ h a n j g (by omega) (by omega) v) S k_X3_put gX3_swap_X3_put rfl ⟨Nat.le_of_ble_eq_true rfl, Nat.le_of_ble_eq_true rfl⟩ hK hP hD hS hA [0, 1] [] rfl rfl (by decide) (by decide) (by decide) 0 (ci := 3) rfl rfl rfl rfl hl.1 (Nat.le_of_ble_eq_true rfl) rfl dX3_swap_9 ⟨Nat.le_of_ble_eq_true rfl, Nat.le_of_ble_eq_true rfl⟩ (fun u H locs hr hP hD hS => ?_)
  have hP : gP Γ [(h, .inr (3, [.ref a])), (a, .inl (Γ.2.1, n, .inl (upd g j v)))] H := hP
  have hD : va_D A [(h, .inr (3, [.ref a])), (a, .inl (Γ.2.1, n, .inl (upd g j v)))] := hD
  refine lv_iload_n hx hb dX3_swap_12 rfl (lv_at hl 0 rfl) ?_
  exact W.iret (v := g j) hx hb hrt (fun t9 ht9 hW9 => ⟨⟨_, (), rfl, rfl, wd_end hK hP hD [0, 1] (by decide) rfl t9 ht9 hW9⟩, hS.F ht9⟩) hS.2.2 dX3_swap_13 hlk

abbrev rm_X3_closeGap : Room := { frames := 1, cells := 0, slots := 0, locals := 22 }
theorem k_X3_closeGap : Cal yX3_closeGap wsX3_closeGap rm_X3_closeGap cX3_closeGap 4 none 2 0 0 := ⟨⟨_, rfl⟩, rfl, rfl, by decide +kernel⟩
set_option maxHeartbeats 4000000 in
set_option maxRecDepth 100000 in
theorem m_X3_closeGap (l : Launch) (Γ : Gm) (sz : Nat) (h a n i t : Nat) (g : Nat → Int32) (hn : n < 2 ^ 31) (ht : t ≤ n) (hi : i < n) (h1 : 1 ≤ t) : MWv (S := Unit) l yX3_closeGap wsX3_closeGap rm_X3_closeGap Γ sz [(h, .inr (3, [.ref a])), (a, .inl (Γ.2.1, n, .inl g))] [.ref h, .int (nI i), .int (nI t)] (fun u => True) (fun u => [(h, .inr (3, [.ref a])), (a, .inl (Γ.2.1, n, .inl (gapk g i (t - 1))))]) 0 0 := by
  refine mW (cc := cX3_closeGap) (maxL := 4) (ret := none) (own := RX3) (by decide) rfl rfl (Nat.le_of_ble_eq_true rfl) ?_
  intro p e s m args below meth c S hrt hlk hin hsz hK hP hD hA hS ls hl
  subst hsz
  generalize hAe : va_A ([(h, .inr (3, [.ref a])), (a, .inl (Γ.2.1, n, .inl g))]) s.heap.size = A at hD hA hS ⊢
  obtain ⟨hx, hb, hml, hown, hts⟩ := id S
  have hg0 : gapk g i i = g := gapk_0 g i
  have hl : lv_has ls 4 [(0, .ref h), (1, .int (nI i)), (2, .int (nI t))] := hl
  have L_2 : ∀ (fuel : Nat), ∀ (k : Nat) (hik : i ≤ k) (hkt : k ≤ t - 1 ∨ k = i) (hfk : n + i - k < fuel), ∀ (H : Heap) (locs : List Loc), gP Γ [(h, .inr (3, [.ref a])), (a, .inl (Γ.2.1, n, .inl (gapk g i k)))] H → va_D A [(h, .inr (3, [.ref a])), (a, .inl (Γ.2.1, n, .inl (gapk g i k)))] → va_S A s.heap H locs → ∀ ls : Array Slot, lv_has ls 4 [(0, .ref h), (1, .int (nI i)), (2, .int (nI t)), (3, .int (nI k))] → W p l e rm_X3_closeGap s m args below meth c H locs 0 0 (MQ below (va_Qv (S := Unit) (fun u => True) (fun u t9 => wd Γ A ([(h, .inr (3, [.ref a])), (a, .inl (Γ.2.1, n, .inl (gapk g i (t - 1))))]) t9) A) args s 0 0 A) (F0 m 2 ls []) := by
    intro fuel
    induction fuel with
    | zero => intro k hik hkt hfk; exact absurd hfk (by omega)
    | succ fuel ih_2 =>
      intro k hik hkt hfk H locs hP hD hS ls hl
      refine lv_iload_n hx hb dX3_closeGap_2 rfl (lv_at hl 3 rfl) ?_
      refine lv_iload_n hx hb dX3_closeGap_3 rfl (lv_at hl 2 rfl) ?_
      refine lv_iconst (v := nI 1) hx hb dX3_closeGap_4 (by decide) ?_
      refine lv_isub hx hb dX3_closeGap_5 ?_
      refine asi (z := nI (t - 1)) (pk_sub (by omega)) ?_
      refine lv_icmp_ge (tgt := 27) hx hb dX3_closeGap_6 (by decide) (fun c_6 => ?_) (fun c_6 => ?_)
      · have n_6 := (nI_leI (a := (t - 1)) (b := k) (by omega) (by omega)).mp c_6
        rw [gap_end hik (by omega) hkt] at hP hD
        exact W.vret hx hb hrt (fun t9 ht9 hW9 => ⟨⟨(), rfl, trivial, wd_end hK hP hD [0, 1] (by decide) rfl t9 ht9 hW9⟩, hS.F ht9⟩) hS.2.2 dX3_closeGap_27 hlk
      · have n_6 := (not_congr (nI_leI (a := (t - 1)) (b := k) (by omega) (by omega))).mp c_6
        refine lv_aload_n hx hb dX3_closeGap_9 rfl (lv_at hl 0 rfl) ?_
        refine lv_iload_n hx hb dX3_closeGap_10 rfl (lv_at hl 3 rfl) ?_
        refine lv_aload_n hx hb dX3_closeGap_11 rfl (lv_at hl 0 rfl) ?_
        refine lv_iload_n hx hb dX3_closeGap_12 rfl (lv_at hl 3 rfl) ?_
        refine lv_iconst (v := nI 1) hx hb dX3_closeGap_13 (by decide) ?_
        refine lv_iadd hx hb dX3_closeGap_14 ?_
        refine asi (z := nI (k + 1)) (nI_add _ _) ?_
        refine cRi (As := [.int (nI (k + 1))]) (rest := [.int (nI k), .ref h]) (m_X3_get l Γ h a n (k + 1) (gapk g i k) (by omega) (by omega)) S k_X3_get gX3_closeGap_X3_get rfl ⟨Nat.le_of_ble_eq_true rfl, Nat.le_of_ble_eq_true rfl⟩ hK hP [0, 1] rfl 0 (ci := 3) rfl rfl rfl rfl hl.1 (Nat.le_of_ble_eq_true rfl) rfl dX3_closeGap_15 ⟨Nat.le_of_ble_eq_true rfl, Nat.le_of_ble_eq_true rfl⟩ (fun r hr => ?_)
        subst hr
        refine cWv (As := [.int (nI k), .int ((gapk g i k) (k + 1))]) (rest := []) (wr := []) (m_X3_put l Γ _ h a n k (gapk g i k) (by omega) (by omega) (gapk g i k (k + 1))) S k_X3_put gX3_closeGap_X3_put rfl ⟨Nat.le_of_ble_eq_true rfl, Nat.le_of_ble_eq_true rfl⟩ hK hP hD hS hA [0, 1] [] rfl rfl (by decide) (by decide) (by decide) 0 (ci := 3) rfl rfl rfl rfl hl.1 (Nat.le_of_ble_eq_true rfl) rfl dX3_closeGap_18 ⟨Nat.le_of_ble_eq_true rfl, Nat.le_of_ble_eq_true rfl⟩ (fun u H locs hr hP hD hS => ?_)
        have hP : gP Γ [(h, .inr (3, [.ref a])), (a, .inl (Γ.2.1, n, .inl (upd (gapk g i k) k (gapk g i k (k + 1)))))] H := hP
        have hD : va_D A [(h, .inr (3, [.ref a])), (a, .inl (Γ.2.1, n, .inl (upd (gapk g i k) k (gapk g i k (k + 1)))))] := hD
        rw [gapk_s g hik] at hP hD
        have hP : gP Γ [(h, .inr (3, [.ref a])), (a, .inl (Γ.2.1, n, .inl (gapk g i (k + 1))))] H := hP
        have hD : va_D A [(h, .inr (3, [.ref a])), (a, .inl (Γ.2.1, n, .inl (gapk g i (k + 1))))] := hD
        refine lv_iinc (v := nI (k + 1)) (lv' := [(3, .int (nI (k + 1))), (0, .ref h), (1, .int (nI i)), (2, .int (nI t))]) hx hb dX3_closeGap_21 hl (k := 3) rfl (nI_add _ _) (by decide) rfl (fun ls hl => ?_)
        refine lv_goto (tgt := 2) hx hb dX3_closeGap_24 (by decide) ?_
        exact ih_2 (k + 1) (by omega) (Or.inl (by omega)) (by omega) _ _ hP hD hS ls (lv_sub hl [1, 2, 3, 0] rfl)
  have hH : s.heap = s.heap := rfl
  rw [← hg0] at hP hD
  refine lv_iload_n hx hb dX3_closeGap_0 rfl (lv_at hl 1 rfl) ?_
  refine lv_istore_n (lv' := [(3, .int (nI i)), (0, .ref h), (1, .int (nI i)), (2, .int (nI t))]) hx hb dX3_closeGap_1 rfl hl (by decide) rfl (fun ls hl => ?_)
  exact L_2 (n + 1) i (Nat.le_refl _) (Or.inr rfl) (by omega) _ _ hP hD hS ls (lv_sub hl [1, 2, 3, 0] rfl)

abbrev rm_X3_sum : Room := { frames := 0, cells := 0, slots := 0, locals := 0 }
theorem k_X3_sum : Cal yX3_sum wsX3_sum rm_X3_sum cX3_sum 3 (some .int) 0 0 0 := ⟨⟨_, rfl⟩, rfl, rfl, by decide +kernel⟩
set_option maxHeartbeats 4000000 in
set_option maxRecDepth 100000 in
theorem m_X3_sum (l : Launch) (Γ : Gm) (h a n : Nat) (g : Nat → Int32) (hn : n < 2 ^ 31) : MRi l yX3_sum wsX3_sum rm_X3_sum Γ [(h, .inr (3, [.ref a])), (a, .inl (Γ.2.1, n, .inl g))] [.ref h] (fun r => r = sumI g n) := by
  refine mR (cc := cX3_sum) (maxL := 3) (ret := (some .int)) (own := RX3) (by decide) rfl rfl (Nat.le_of_ble_eq_true rfl) ?_
  intro p e s m args below meth c S hrt hlk hK hP ls hl
  obtain ⟨hx, hb, hml, hown, hts⟩ := id S
  have hl : lv_has ls 3 [(0, .ref h)] := hl
  have hP : gP Γ [(h, .inr (3, [.ref a])), (a, .inl (Γ.2.1, n, .inl g))] s.heap := hP
  have L_4 : ∀ (fuel : Nat), ∀ (k : Nat) (x1 : Int32) (hk : k ≤ n) (hfk : n - k < fuel) (e_x1 : x1 = sumI g (k)), ∀ ls : Array Slot, lv_has ls 3 [(0, .ref h), (2, .int (nI k)), (1, .int x1)] → W p l e rm_X3_sum s m args below meth c s.heap [] 0 0 (MQ below (vp_Si (fun r => r = sumI g n)) args s 0 0 (fun _ => False)) (F0 m 4 ls []) := by
    intro fuel
    induction fuel with
    | zero => intro k x1 hk hfk e_x1; exact absurd hfk (by omega)
    | succ fuel ih_4 =>
      intro k x1 hk hfk e_x1 ls hl
      subst e_x1
      refine lv_iload_n hx hb dX3_sum_4 rfl (lv_at hl 1 rfl) ?_
      refine lv_aload_n hx hb dX3_sum_5 rfl (lv_at hl 0 rfl) ?_
      refine va_get (D := Γ.1) (ci := 3) (v := .ref a) (C := RX3) (T := TX3) (N := 1) hx hb hts (by decide +kernel) hown hK hP 0 rfl rfl 0 (by decide) (hts (.fieldLink RX3 7 "RowVeils$Numbers" "held" "[I") (by decide +kernel)) (fun _ h9 => h9) rfl dX3_sum_6 ?_
      refine va_alen (v := nI n) hx hb hK hP 1 0 rfl rfl rfl dX3_sum_9 ?_
      refine lv_icmp_ge (tgt := 28) hx hb dX3_sum_10 (by decide) (fun c_10 => ?_) (fun c_10 => ?_)
      · have n_10 := (nI_leI (a := n) (b := k) (by omega) (by omega)).mp c_10
        refine lv_iload_n hx hb dX3_sum_28 rfl (lv_at hl 2 rfl) ?_
        exact W.iret (v := sumI g (k)) hx hb hrt (fun t9 ht9 hW9 => ⟨_, rfl, by rw [show n = k from by omega], ht9⟩) (fun _ h9 => nomatch h9) dX3_sum_29 hlk
      · have n_10 := (not_congr (nI_leI (a := n) (b := k) (by omega) (by omega))).mp c_10
        refine lv_iload_n hx hb dX3_sum_13 rfl (lv_at hl 2 rfl) ?_
        refine lv_aload_n hx hb dX3_sum_14 rfl (lv_at hl 0 rfl) ?_
        refine va_get (D := Γ.1) (ci := 3) (v := .ref a) (C := RX3) (T := TX3) (N := 1) hx hb hts (by decide +kernel) hown hK hP 0 rfl rfl 0 (by decide) (hts (.fieldLink RX3 7 "RowVeils$Numbers" "held" "[I") (by decide +kernel)) (fun _ h9 => h9) rfl dX3_sum_15 ?_
        refine lv_iload_n hx hb dX3_sum_18 rfl (lv_at hl 1 rfl) ?_
        refine va_iald hx hb hK hP 1 0 rfl rfl (vp_in_nI (by omega) (by omega)) dX3_sum_19 ?_
        refine asi (z := g k) (congrArg _ (nI_clamp (by omega))) ?_
        refine lv_iadd hx hb dX3_sum_20 ?_
        refine asi (z := sumI g (k + 1)) (rfl) ?_
        refine lv_istore_n (lv' := [(1, .int (sumI g (k + 1))), (0, .ref h), (2, .int (nI k))]) hx hb dX3_sum_21 rfl hl (by decide) rfl (fun ls hl => ?_)
        refine lv_iinc (v := nI (k + 1)) (lv' := [(2, .int (nI (k + 1))), (1, .int (sumI g (k + 1))), (0, .ref h)]) hx hb dX3_sum_22 hl (k := 2) rfl (nI_add _ _) (by decide) rfl (fun ls hl => ?_)
        refine lv_goto (tgt := 4) hx hb dX3_sum_25 (by decide) ?_
        exact ih_4 (k + 1) (sumI g (k + 1)) (by omega) (by omega) rfl ls (lv_sub hl [2, 0, 1] rfl)
  refine lv_iconst (v := nI 0) hx hb dX3_sum_0 (by decide) ?_
  refine lv_istore_n (lv' := [(1, .int (nI 0)), (0, .ref h)]) hx hb dX3_sum_1 rfl hl (by decide) rfl (fun ls hl => ?_)
  refine lv_iconst (v := nI 0) hx hb dX3_sum_2 (by decide) ?_
  refine lv_istore_n (lv' := [(2, .int (nI 0)), (1, .int (nI 0)), (0, .ref h)]) hx hb dX3_sum_3 rfl hl (by decide) rfl (fun ls hl => ?_)
  exact L_4 (n + 1) 0 (nI 0) (by omega) (by omega) rfl ls (lv_sub hl [2, 0, 1] rfl)

abbrev rm_X3_copyFrom : Room := { frames := 1, cells := 0, slots := 0, locals := 21 }
theorem k_X3_copyFrom : Cal yX3_copyFrom wsX3_copyFrom rm_X3_copyFrom cX3_copyFrom 3 none 1 0 0 := ⟨⟨_, rfl⟩, rfl, rfl, by decide +kernel⟩
set_option maxHeartbeats 4000000 in
set_option maxRecDepth 100000 in
theorem m_X3_copyFrom (l : Launch) (Γ : Gm) (sz : Nat) (h a h2 a2 n : Nat) (g g2 : Nat → Int32) (hn : n < 2 ^ 31) : MWv (S := Unit) l yX3_copyFrom wsX3_copyFrom rm_X3_copyFrom Γ sz [(h, .inr (3, [.ref a])), (a, .inl (Γ.2.1, n, .inl g)), (h2, .inr (3, [.ref a2])), (a2, .inl (Γ.2.1, n, .inl g2))] [.ref h, .ref h2] (fun u => True) (fun u => [(h, .inr (3, [.ref a])), (a, .inl (Γ.2.1, n, .inl (cpk g g2 n))), (h2, .inr (3, [.ref a2])), (a2, .inl (Γ.2.1, n, .inl g2))]) 0 0 := by
  refine mW (cc := cX3_copyFrom) (maxL := 3) (ret := none) (own := RX3) (by decide) rfl rfl (Nat.le_of_ble_eq_true rfl) ?_
  intro p e s m args below meth c S hrt hlk hin hsz hK hP hD hA hS ls hl
  subst hsz
  generalize hAe : va_A ([(h, .inr (3, [.ref a])), (a, .inl (Γ.2.1, n, .inl g)), (h2, .inr (3, [.ref a2])), (a2, .inl (Γ.2.1, n, .inl g2))]) s.heap.size = A at hD hA hS ⊢
  obtain ⟨hx, hb, hml, hown, hts⟩ := id S
  have hg0 : cpk g g2 0 = g := cpk_0 g g2
  have hl : lv_has ls 3 [(0, .ref h), (1, .ref h2)] := hl
  have L_2 : ∀ (fuel : Nat), ∀ (k : Nat) (hk : k ≤ n) (hfk : n - k < fuel), ∀ (H : Heap) (locs : List Loc), gP Γ [(h, .inr (3, [.ref a])), (a, .inl (Γ.2.1, n, .inl (cpk g g2 k))), (h2, .inr (3, [.ref a2])), (a2, .inl (Γ.2.1, n, .inl g2))] H → va_D A [(h, .inr (3, [.ref a])), (a, .inl (Γ.2.1, n, .inl (cpk g g2 k))), (h2, .inr (3, [.ref a2])), (a2, .inl (Γ.2.1, n, .inl g2))] → va_S A s.heap H locs → ∀ ls : Array Slot, lv_has ls 3 [(0, .ref h), (1, .ref h2), (2, .int (nI k))] → W p l e rm_X3_copyFrom s m args below meth c H locs 0 0 (MQ below (va_Qv (S := Unit) (fun u => True) (fun u t9 => wd Γ A ([(h, .inr (3, [.ref a])), (a, .inl (Γ.2.1, n, .inl (cpk g g2 n))), (h2, .inr (3, [.ref a2])), (a2, .inl (Γ.2.1, n, .inl g2))]) t9) A) args s 0 0 A) (F0 m 2 ls []) := by
    intro fuel
    induction fuel with
    | zero => intro k hk hfk; exact absurd hfk (by omega)
    | succ fuel ih_2 =>
      intro k hk hfk H locs hP hD hS ls hl
      refine lv_iload_n hx hb dX3_copyFrom_2 rfl (lv_at hl 2 rfl) ?_
      refine lv_aload_n hx hb dX3_copyFrom_3 rfl (lv_at hl 0 rfl) ?_
      refine va_get (D := Γ.1) (ci := 3) (v := .ref a) (C := RX3) (T := TX3) (N := 1) hx hb hts (by decide +kernel) hown hK hP 0 rfl rfl 0 (by decide) (hts (.fieldLink RX3 7 "RowVeils$Numbers" "held" "[I") (by decide +kernel)) (fun _ h9 => h9) rfl dX3_copyFrom_4 ?_
      refine va_alen (v := nI n) hx hb hK hP 1 0 rfl rfl rfl dX3_copyFrom_7 ?_
      refine lv_icmp_ge (tgt := 28) hx hb dX3_copyFrom_8 (by decide) (fun c_8 => ?_) (fun c_8 => ?_)
      · have n_8 := (nI_leI (a := n) (b := k) (by omega) (by omega)).mp c_8
        rw [show k = n from by omega] at hP hD
        exact W.vret hx hb hrt (fun t9 ht9 hW9 => ⟨⟨(), rfl, trivial, wd_end hK hP hD [0, 1, 2, 3] (by decide) rfl t9 ht9 hW9⟩, hS.F ht9⟩) hS.2.2 dX3_copyFrom_28 hlk
      · have n_8 := (not_congr (nI_leI (a := n) (b := k) (by omega) (by omega))).mp c_8
        refine lv_aload_n hx hb dX3_copyFrom_11 rfl (lv_at hl 0 rfl) ?_
        refine va_get (D := Γ.1) (ci := 3) (v := .ref a) (C := RX3) (T := TX3) (N := 1) hx hb hts (by decide +kernel) hown hK hP 0 rfl rfl 0 (by decide) (hts (.fieldLink RX3 7 "RowVeils$Numbers" "held" "[I") (by decide +kernel)) (fun _ h9 => h9) rfl dX3_copyFrom_12 ?_
        refine lv_iload_n hx hb dX3_copyFrom_15 rfl (lv_at hl 2 rfl) ?_
        refine lv_aload_n hx hb dX3_copyFrom_16 rfl (lv_at hl 1 rfl) ?_
        refine lv_iload_n hx hb dX3_copyFrom_17 rfl (lv_at hl 2 rfl) ?_
        refine cRi (As := [.int (nI k)]) (rest := [.int (nI k), .ref a]) (m_X3_get l Γ h2 a2 n k g2 (by omega) (by omega)) S k_X3_get gX3_copyFrom_X3_get rfl ⟨Nat.le_of_ble_eq_true rfl, Nat.le_of_ble_eq_true rfl⟩ hK hP [2, 3] rfl 0 (ci := 3) rfl rfl rfl rfl hl.1 (Nat.le_of_ble_eq_true rfl) rfl dX3_copyFrom_18 ⟨Nat.le_of_ble_eq_true rfl, Nat.le_of_ble_eq_true rfl⟩ (fun r hr => ?_)
        subst hr
        refine va_iast hx hb hK hP hD hS 1 0 rfl rfl (vp_in_nI (by omega) (by omega)) dX3_copyFrom_21 (fun H locs hP hD hS => ?_)
        have ec : (nI k).toNatClampNeg = k := nI_clamp (by omega)
        rw [ec] at hP hD
        clear ec
        have hP : gP Γ [(h, .inr (3, [.ref a])), (a, .inl (Γ.2.1, n, .inl (upd (cpk g g2 k) k (g2 k)))), (h2, .inr (3, [.ref a2])), (a2, .inl (Γ.2.1, n, .inl g2))] H := hP
        have hD : va_D A [(h, .inr (3, [.ref a])), (a, .inl (Γ.2.1, n, .inl (upd (cpk g g2 k) k (g2 k)))), (h2, .inr (3, [.ref a2])), (a2, .inl (Γ.2.1, n, .inl g2))] := hD
        have ef : upd (cpk g g2 k) k (g2 k) = cpk g g2 (k + 1) := cpk_s g g2 k
        rw [ef] at hP hD
        clear ef
        have hP : gP Γ [(h, .inr (3, [.ref a])), (a, .inl (Γ.2.1, n, .inl (cpk g g2 (k + 1)))), (h2, .inr (3, [.ref a2])), (a2, .inl (Γ.2.1, n, .inl g2))] H := hP
        have hD : va_D A [(h, .inr (3, [.ref a])), (a, .inl (Γ.2.1, n, .inl (cpk g g2 (k + 1)))), (h2, .inr (3, [.ref a2])), (a2, .inl (Γ.2.1, n, .inl g2))] := hD
        refine lv_iinc (v := nI (k + 1)) (lv' := [(2, .int (nI (k + 1))), (0, .ref h), (1, .ref h2)]) hx hb dX3_copyFrom_22 hl (k := 2) rfl (nI_add _ _) (by decide) rfl (fun ls hl => ?_)
        refine lv_goto (tgt := 2) hx hb dX3_copyFrom_25 (by decide) ?_
        exact ih_2 (k + 1) (by omega) (by omega) _ _ hP hD hS ls (lv_sub hl [1, 2, 0] rfl)
  have hH : s.heap = s.heap := rfl
  rw [← hg0] at hP hD
  refine lv_iconst (v := nI 0) hx hb dX3_copyFrom_0 (by decide) ?_
  refine lv_istore_n (lv' := [(2, .int (nI 0)), (0, .ref h), (1, .ref h2)]) hx hb dX3_copyFrom_1 rfl hl (by decide) rfl (fun ls hl => ?_)
  exact L_2 (n + 1) 0 (by omega) (by omega) _ _ hP hD hS ls (lv_sub hl [1, 2, 0] rfl)

abbrev rm_X3_init : Room := { frames := 1, cells := 1, slots := 60, locals := 20 }
theorem k_X3_init : Cal yX3_init wsX3_init rm_X3_init cX3_init 4 none 2 1 60 := ⟨⟨_, rfl⟩, rfl, rfl, by decide +kernel⟩
set_option maxHeartbeats 4000000 in
set_option maxRecDepth 100000 in
theorem m_X3_init (l : Launch) (Γ : Gm) (sz : Nat) (h n : Nat) (v : Int32) (hn : n ≤ 60) : MWv (S := Nat) l yX3_init wsX3_init rm_X3_init Γ sz [(h, .inr (3, [.null]))] [.ref h, .int (nI n), .int v] (fun u => True) (fun u => [(h, .inr (3, [.ref u])), (u, .inl (Γ.2.1, n, .inl (filk v n)))]) 1 60 := by
  refine mW (cc := cX3_init) (maxL := 4) (ret := none) (own := RX3) (by decide) rfl rfl (Nat.le_of_ble_eq_true rfl) ?_
  intro p e s m args below meth c S hrt hlk hin hsz hK hP hD hA hS ls hl
  have hin := hin rfl
  subst hsz
  generalize hAe : va_A ([(h, .inr (3, [.null]))]) s.heap.size = A at hD hA hS ⊢
  obtain ⟨hx, hb, hml, hown, hts⟩ := id S
  have hg0 : filk v 0 = fun _ => 0 := filk_0 v
  have hl : lv_has ls 4 [(0, .ref h), (1, .int (nI n)), (2, .int v)] := hl
  have L_21 : ∀ (fuel : Nat), ∀ (a : Nat) (k : Nat) (hk : k ≤ n) (hfk : n - k < fuel), ∀ (H : Heap) (locs : List Loc), gP Γ [(h, .inr (3, [.ref a])), (a, .inl (Γ.2.1, n, .inl (filk v k)))] H → va_D A [(h, .inr (3, [.ref a])), (a, .inl (Γ.2.1, n, .inl (filk v k)))] → va_S A s.heap H locs → ∀ ls : Array Slot, lv_has ls 4 [(0, .ref h), (1, .int (nI n)), (2, .int v), (3, .int (nI k))] → W p l e rm_X3_init s m args below meth c H locs 1 60 (MQ below (va_Qv (S := Nat) (fun u => True) (fun u t9 => wd Γ A ([(h, .inr (3, [.ref u])), (u, .inl (Γ.2.1, n, .inl (filk v n)))]) t9) A) args s 1 60 A) (F0 m 21 ls []) := by
    intro fuel
    induction fuel with
    | zero => intro a k hk hfk; exact absurd hfk (by omega)
    | succ fuel ih_21 =>
      intro a k hk hfk H locs hP hD hS ls hl
      refine lv_iload_n hx hb dX3_init_21 rfl (lv_at hl 3 rfl) ?_
      refine lv_aload_n hx hb dX3_init_22 rfl (lv_at hl 0 rfl) ?_
      refine va_get (D := Γ.1) (ci := 3) (v := .ref a) (C := RX3) (T := TX3) (N := 1) hx hb hts (by decide +kernel) hown hK hP 0 rfl rfl 0 (by decide) (hts (.fieldLink RX3 7 "RowVeils$Numbers" "held" "[I") (by decide +kernel)) (fun _ h9 => h9) rfl dX3_init_23 ?_
      refine va_alen (v := nI n) hx hb hK hP 1 0 rfl rfl rfl dX3_init_26 ?_
      refine lv_icmp_ge (tgt := 43) hx hb dX3_init_27 (by decide) (fun c_27 => ?_) (fun c_27 => ?_)
      · have n_27 := (nI_leI (a := n) (b := k) (by omega) (by omega)).mp c_27
        rw [show k = n from by omega] at hP hD
        refine W.widen (k := 1) (n := 60) (Nat.le_of_ble_eq_true rfl) (Nat.le_of_ble_eq_true rfl) ?_
        exact W.vret hx hb hrt (fun t9 ht9 hW9 => ⟨⟨a, rfl, trivial, wd_end hK hP hD [0, 1] (by decide) rfl t9 ht9 hW9⟩, hS.F ht9⟩) hS.2.2 dX3_init_43 hlk
      · have n_27 := (not_congr (nI_leI (a := n) (b := k) (by omega) (by omega))).mp c_27
        refine lv_aload_n hx hb dX3_init_30 rfl (lv_at hl 0 rfl) ?_
        refine va_get (D := Γ.1) (ci := 3) (v := .ref a) (C := RX3) (T := TX3) (N := 1) hx hb hts (by decide +kernel) hown hK hP 0 rfl rfl 0 (by decide) (hts (.fieldLink RX3 7 "RowVeils$Numbers" "held" "[I") (by decide +kernel)) (fun _ h9 => h9) rfl dX3_init_31 ?_
        refine lv_iload_n hx hb dX3_init_34 rfl (lv_at hl 3 rfl) ?_
        refine lv_iload_n hx hb dX3_init_35 rfl (lv_at hl 2 rfl) ?_
        refine va_iast hx hb hK hP hD hS 1 0 rfl rfl (vp_in_nI (by omega) (by omega)) dX3_init_36 (fun H locs hP hD hS => ?_)
        have ec : (nI k).toNatClampNeg = k := nI_clamp (by omega)
        rw [ec] at hP hD
        clear ec
        have hP : gP Γ [(h, .inr (3, [.ref a])), (a, .inl (Γ.2.1, n, .inl (upd (filk v k) k v)))] H := hP
        have hD : va_D A [(h, .inr (3, [.ref a])), (a, .inl (Γ.2.1, n, .inl (upd (filk v k) k v)))] := hD
        have ef : upd (filk v k) k v = filk v (k + 1) := filk_s v k
        rw [ef] at hP hD
        clear ef
        have hP : gP Γ [(h, .inr (3, [.ref a])), (a, .inl (Γ.2.1, n, .inl (filk v (k + 1))))] H := hP
        have hD : va_D A [(h, .inr (3, [.ref a])), (a, .inl (Γ.2.1, n, .inl (filk v (k + 1))))] := hD
        refine lv_iinc (v := nI (k + 1)) (lv' := [(3, .int (nI (k + 1))), (0, .ref h), (1, .int (nI n)), (2, .int v)]) hx hb dX3_init_37 hl (k := 3) rfl (nI_add _ _) (by decide) rfl (fun ls hl => ?_)
        refine lv_goto (tgt := 21) hx hb dX3_init_40 (by decide) ?_
        exact ih_21 a (k + 1) (by omega) (by omega) _ _ hP hD hS ls (lv_sub hl [1, 2, 3, 0] rfl)
  have hH : s.heap = s.heap := rfl
  refine lv_aload_n hx hb dX3_init_0 rfl (lv_at hl 0 rfl) ?_
  refine W.objInit hx hb hown (hts (.methodLink RX3 1 objectInit) (by decide +kernel)) (hts (.instanceMethod objectInit) (by decide +kernel)) (hts (.code objectInit ⟨#[0xb1]⟩ 1 none) (by decide +kernel)) rfl (by rw [hml]; exact hl.1) rfl dX3_init_1 (Nat.le_of_ble_eq_true rfl) (Nat.le_of_ble_eq_true rfl) ?_
  refine W.eq (g2 := F0 m 4 ls []) rfl ?_
  refine lv_aload_n hx hb dX3_init_4 rfl (lv_at hl 0 rfl) ?_
  refine lv_iload_n hx hb dX3_init_5 rfl (lv_at hl 1 rfl) ?_
  refine lv_if_ge (tgt := 13) hx hb dX3_init_6 (by decide) (fun c_6 => ?_) (fun c_6 => ?_)
  · refine lv_iload_n hx hb dX3_init_13 rfl (lv_at hl 1 rfl) ?_
    refine newI (N := n) hx hb (hts (.arrayClass .int) (by decide +kernel)) hK hP hD hS hA (nI_pos (by omega)) (nI_clamp (by omega)) (by omega) (Nat.le_of_ble_eq_true rfl) (show 0 + n ≤ 60 by omega) dX3_init_14 (fun a H hP hD hS => ?_)
    have hP : gP Γ [(h, .inr (3, [.null])), (a, .inl (Γ.2.1, n, .inl (fun _ => 0)))] H := hP
    have hD : va_D A [(h, .inr (3, [.null])), (a, .inl (Γ.2.1, n, .inl (fun _ => 0)))] := hD
    refine W.widen (k := 1) (n := 60) (Nat.le_of_ble_eq_true rfl) (show 0 + n ≤ 60 by omega) ?_
    refine va_putF (D := Γ.1) (ci := 3) (v := .ref a) (ty := .array .int) (C := RX3) (T := TX3) (N := 1) hx hb hts (by decide +kernel) tyX3 tyX3_ok nmX3 hown hK hP hD hS 0 rfl rfl 0 (by decide) (hts (.fieldLink RX3 7 "RowVeils$Numbers" "held" "[I") (by decide +kernel)) (fun _ h9 => h9) rfl hin rfl (by decide +kernel) rfl rfl (Nat.le_of_ble_eq_true rfl) dX3_init_16 (fun H locs hP hD hS => ?_)
    have hP : gP Γ [(h, .inr (3, [.ref a])), (a, .inl (Γ.2.1, n, .inl (fun _ => 0)))] H := hP
    have hD : va_D A [(h, .inr (3, [.ref a])), (a, .inl (Γ.2.1, n, .inl (fun _ => 0)))] := hD
    rw [← hg0] at hP hD
    refine lv_iconst (v := nI 0) hx hb dX3_init_19 (by decide) ?_
    refine lv_istore_n (lv' := [(3, .int (nI 0)), (0, .ref h), (1, .int (nI n)), (2, .int v)]) hx hb dX3_init_20 rfl hl (by decide) rfl (fun ls hl => ?_)
    exact L_21 (n + 1) a 0 (by omega) (by omega) _ _ hP hD hS ls (lv_sub hl [1, 2, 3, 0] rfl)
  · exact absurd (nI_pos' (by omega)) c_6

abbrev rm_J6_bitCount_0f7a4 : Room := { frames := 0, cells := 0, slots := 0, locals := 0 }
theorem k_J6_bitCount_0f7a4 : Cal yJ6_bitCount_0f7a4 wsJ6_bitCount_0f7a4 rm_J6_bitCount_0f7a4 cJ6_bitCount_0f7a4 1 (some .int) 1 0 0 := ⟨⟨_, rfl⟩, rfl, rfl, by decide +kernel⟩
set_option maxHeartbeats 4000000 in
set_option maxRecDepth 100000 in
theorem m_J6_bitCount_0f7a4 (l : Launch) (x : Int32) : MSi l yJ6_bitCount_0f7a4 wsJ6_bitCount_0f7a4 rm_J6_bitCount_0f7a4 [.int x] (fun r => r = bcI x) := by
  refine mS (cc := cJ6_bitCount_0f7a4) (maxL := 1) (ret := (some .int)) (own := RJ6) (by decide) rfl rfl (Nat.le_of_ble_eq_true rfl) ?_
  intro p e s m args below meth c S hrt hlk ls hl
  obtain ⟨hx, hb, hml, hown, hts⟩ := id S
  have hl : lv_has ls 1 [(0, .int x)] := hl
  refine lv_iload_n hx hb dJ6_bitCount_0f7a4_0 rfl (lv_at hl 0 rfl) ?_
  refine lv_iload_n hx hb dJ6_bitCount_0f7a4_1 rfl (lv_at hl 0 rfl) ?_
  refine lv_iconst (v := nI 1) hx hb dJ6_bitCount_0f7a4_2 (by decide) ?_
  refine lv_iushr (v := (x.toUInt32 >>> ((nI 1).toUInt32 &&& Int32.toUInt32 31)).toInt32) hx hb dJ6_bitCount_0f7a4_3 rfl ?_
  refine lv_ldcw (v := 1431655765) hx hb hown (hts (.constant RJ6 265 (1431655765)) (by decide +kernel)) dJ6_bitCount_0f7a4_4 ?_
  refine lv_iand hx hb dJ6_bitCount_0f7a4_7 ?_
  refine lv_isub hx hb dJ6_bitCount_0f7a4_8 ?_
  refine asi (z := bc1 x) (rfl) ?_
  refine lv_istore_n (lv' := [(0, .int (bc1 x))]) hx hb dJ6_bitCount_0f7a4_9 rfl hl (by decide) rfl (fun ls hl => ?_)
  refine lv_iload_n hx hb dJ6_bitCount_0f7a4_10 rfl (lv_at hl 0 rfl) ?_
  refine lv_ldcw (v := 858993459) hx hb hown (hts (.constant RJ6 266 (858993459)) (by decide +kernel)) dJ6_bitCount_0f7a4_11 ?_
  refine lv_iand hx hb dJ6_bitCount_0f7a4_14 ?_
  refine lv_iload_n hx hb dJ6_bitCount_0f7a4_15 rfl (lv_at hl 0 rfl) ?_
  refine lv_iconst (v := nI 2) hx hb dJ6_bitCount_0f7a4_16 (by decide) ?_
  refine lv_iushr (v := ((bc1 x).toUInt32 >>> ((nI 2).toUInt32 &&& Int32.toUInt32 31)).toInt32) hx hb dJ6_bitCount_0f7a4_17 rfl ?_
  refine lv_ldcw (v := 858993459) hx hb hown (hts (.constant RJ6 266 (858993459)) (by decide +kernel)) dJ6_bitCount_0f7a4_18 ?_
  refine lv_iand hx hb dJ6_bitCount_0f7a4_21 ?_
  refine lv_iadd hx hb dJ6_bitCount_0f7a4_22 ?_
  refine asi (z := bc2 x) (rfl) ?_
  refine lv_istore_n (lv' := [(0, .int (bc2 x))]) hx hb dJ6_bitCount_0f7a4_23 rfl hl (by decide) rfl (fun ls hl => ?_)
  refine lv_iload_n hx hb dJ6_bitCount_0f7a4_24 rfl (lv_at hl 0 rfl) ?_
  refine lv_iload_n hx hb dJ6_bitCount_0f7a4_25 rfl (lv_at hl 0 rfl) ?_
  refine lv_iconst (v := nI 4) hx hb dJ6_bitCount_0f7a4_26 (by decide) ?_
  refine lv_iushr (v := ((bc2 x).toUInt32 >>> ((nI 4).toUInt32 &&& Int32.toUInt32 31)).toInt32) hx hb dJ6_bitCount_0f7a4_27 rfl ?_
  refine lv_iadd hx hb dJ6_bitCount_0f7a4_28 ?_
  refine lv_ldcw (v := 252645135) hx hb hown (hts (.constant RJ6 267 (252645135)) (by decide +kernel)) dJ6_bitCount_0f7a4_29 ?_
  refine lv_iand hx hb dJ6_bitCount_0f7a4_32 ?_
  refine asi (z := bc3 x) (rfl) ?_
  refine lv_istore_n (lv' := [(0, .int (bc3 x))]) hx hb dJ6_bitCount_0f7a4_33 rfl hl (by decide) rfl (fun ls hl => ?_)
  refine lv_iload_n hx hb dJ6_bitCount_0f7a4_34 rfl (lv_at hl 0 rfl) ?_
  refine lv_iload_n hx hb dJ6_bitCount_0f7a4_35 rfl (lv_at hl 0 rfl) ?_
  refine lv_bipush (v := nI 8) hx hb dJ6_bitCount_0f7a4_36 (by decide) ?_
  refine lv_iushr (v := ((bc3 x).toUInt32 >>> ((nI 8).toUInt32 &&& Int32.toUInt32 31)).toInt32) hx hb dJ6_bitCount_0f7a4_38 rfl ?_
  refine lv_iadd hx hb dJ6_bitCount_0f7a4_39 ?_
  refine asi (z := bc4 x) (rfl) ?_
  refine lv_istore_n (lv' := [(0, .int (bc4 x))]) hx hb dJ6_bitCount_0f7a4_40 rfl hl (by decide) rfl (fun ls hl => ?_)
  refine lv_iload_n hx hb dJ6_bitCount_0f7a4_41 rfl (lv_at hl 0 rfl) ?_
  refine lv_iload_n hx hb dJ6_bitCount_0f7a4_42 rfl (lv_at hl 0 rfl) ?_
  refine lv_bipush (v := nI 16) hx hb dJ6_bitCount_0f7a4_43 (by decide) ?_
  refine lv_iushr (v := ((bc4 x).toUInt32 >>> ((nI 16).toUInt32 &&& Int32.toUInt32 31)).toInt32) hx hb dJ6_bitCount_0f7a4_45 rfl ?_
  refine lv_iadd hx hb dJ6_bitCount_0f7a4_46 ?_
  refine asi (z := bc5 x) (rfl) ?_
  refine lv_istore_n (lv' := [(0, .int (bc5 x))]) hx hb dJ6_bitCount_0f7a4_47 rfl hl (by decide) rfl (fun ls hl => ?_)
  refine lv_iload_n hx hb dJ6_bitCount_0f7a4_48 rfl (lv_at hl 0 rfl) ?_
  refine lv_bipush (v := nI 63) hx hb dJ6_bitCount_0f7a4_49 (by decide) ?_
  refine lv_iand hx hb dJ6_bitCount_0f7a4_51 ?_
  refine asi (z := bcI x) (rfl) ?_
  exact W.iret (v := bcI x) hx hb hrt (fun t9 ht9 hW9 => ⟨_, rfl, rfl, ht9⟩) (fun _ h9 => nomatch h9) dJ6_bitCount_0f7a4_52 hlk

