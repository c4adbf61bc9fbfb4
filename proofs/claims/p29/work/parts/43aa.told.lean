abbrev rm_L_low : Room := { frames := 0, cells := 0, slots := 0, locals := 0 }
theorem k_L_low : Cal yL_low wsL_low rm_L_low cL_low 2 (some .int) 2 0 0 := ⟨⟨_, rfl⟩, rfl, rfl, by decide +kernel⟩
set_option maxHeartbeats 4000000 in
set_option maxRecDepth 100000 in
theorem m_L_low (l : Launch) (x : Int32) (n : Nat) (h0 : 0 < n) (hn : n < 2 ^ 31) : MSi l yL_low wsL_low rm_L_low [.int x, .int (nI n)] (fun r => r = nI (lowN x n)) := by
  refine mS (cc := cL_low) (maxL := 2) (ret := (some .int)) (own := RL) (by decide) rfl rfl (Nat.le_of_ble_eq_true rfl) ?_
  intro p e s m args below meth c S hrt hlk ls hl
  obtain ⟨hx, hb, hml, hown, hts⟩ := id S
  have hl : lv_has ls 2 [(0, .int x), (1, .int (nI n))] := hl
  refine lv_iload_n hx hb dL_low_0 rfl (lv_at hl 0 rfl) ?_
  refine lv_ldc (v := 2147483647) hx hb hown (hts (.constant RL 7 (2147483647)) (by decide +kernel)) dL_low_1 ?_
  refine lv_iand hx hb dL_low_3 ?_
  refine asi (z := nI (andN x 2147483647)) (andN_e x (by decide)) ?_
  refine lv_iload_n hx hb dL_low_4 rfl (lv_at hl 1 rfl) ?_
  refine lv_irem hx hb dL_low_5 (nI_ne0 h0 hn) ?_
  refine asi (z := nI (andN x 2147483647 % n)) (pk_rem (Nat.lt_of_le_of_lt (andN_le x (by decide)) (by decide)) h0 hn) ?_
  exact W.iret (v := nI (andN x 2147483647 % n)) hx hb hrt (fun t9 ht9 hW9 => ⟨_, rfl, rfl, ht9⟩) (fun _ h9 => nomatch h9) dL_low_6 hlk

abbrev rm_L_told : Room := { frames := 8, cells := 400, slots := 2400, locals := 159 }
theorem k_L_told : Cal yL_told wsL_told rm_L_told cL_told 5 (some .long) 1 400 2400 := ⟨⟨_, rfl⟩, rfl, rfl, by decide +kernel⟩
set_option maxHeartbeats 4000000 in
set_option maxRecDepth 100000 in
theorem m_L_told (l : Launch) (Γ : Gm) (sz : Nat) (hfl : l.stackTraces = false) (a : Nat → Nat) (b : Nat → Nat → Nat) (rf : Nat → Option Nat) (hrf : ∀ i, i < 6 → rf i = some (b i 0)) (f : Nat → Nat → Int32) (z : Nat → Int32) (F : Nat → Nat → Nat → Int32) (Z : Nat → Nat → Int32) (σ : Nat → Nat) (sc : Nat) (ss : Nat → Nat → Nat) (nb : Nat) (bb : Nat → Nat) (hX : XR σ sc ss nb bb f z F Z)  : MEl l yL_told wsL_told rm_L_told Γ sz (wXo Γ a b rf f z F Z) [.ref (a 34)] (fun r => r = lz_told σ) (fun E => False) 400 2400 := by
  refine mE (cc := cL_told) (maxL := 5) (ret := (some .long)) (own := RL) (by decide) rfl rfl (Nat.le_of_ble_eq_true rfl) ?_
  intro p e s m args below meth c S hrt hlk htab hsz hE hK hP ls hl
  subst hsz
  have hA : ∀ q, s.heap.size ≤ q → (fun q => s.heap.size ≤ q) q := fun _ h => h
  have hS : va_S (fun q => s.heap.size ≤ q) s.heap s.heap [] := va_S.rf
  have hk2 : ∀ q : Nat, q < s.heap.size → s.heap[q]? = s.heap[q]? := fun _ _ => rfl
  obtain ⟨hx, hb, hml, hown, hts⟩ := id S
  have hn := hX.2.1.n
  have hl : lv_has ls 5 [(0, .ref (a 34))] := hl
  have hP : gP Γ (wXo Γ a b rf f z F Z) s.heap := hP
  have L_80 : ∀ (fuel : Nat), ∀ (k : Nat) (cells slots : Nat) (hk : k ≤ 5) (hfk : 5 - k < fuel) (hc : cells + 28 * (5 - k) ≤ 326) (hs : slots + 6 * (28 * (5 - k)) ≤ 1956), ∀ (H : Heap) (locs : List Loc), gP Γ (wXo Γ a b rf f z F Z) H → va_S (fun q => s.heap.size ≤ q) s.heap H locs → (∀ q : Nat, q < s.heap.size → H[q]? = s.heap[q]?) → ∀ ls : Array Slot, lv_has ls 5 [(0, .ref (a 34)), (1, .long (lz_pers σ (lz_rows σ (lz_f (lz_C σ) 3 9) (σ 0)) k)), (3, .int (nI k))] → W p l e rm_L_told s m args below meth c H locs cells slots (vx_MQ below (va_Ql (S := Unit) (fun r _ => r = lz_told σ) (fun _ _ => True) (fun _ => False)) (xX s.heap.size (fun E => False)) args s 400 2400 (fun q => s.heap.size ≤ q)) (F0 m 80 ls []) := by
    intro fuel
    induction fuel with
    | zero => intro k cells slots hk hfk hc hs; exact absurd hfk (by omega)
    | succ fuel ih_80 =>
      intro k cells slots hk hfk hc hs H locs hP hS hk2 ls hl
      have L_119 : ∀ (fuel : Nat), ∀ (j : Nat) (cells slots : Nat) (hkk : k < 5) (hj : j ≤ 6) (hf : 6 - j < fuel) (hc : cells + (2 * (6 - j) + 28 * (5 - (k + 1))) ≤ 326) (hs : slots + 6 * (2 * (6 - j) + 28 * (5 - (k + 1))) ≤ 1956), ∀ (H : Heap) (locs : List Loc), gP Γ (wXo Γ a b rf f z F Z) H → va_S (fun q => s.heap.size ≤ q) s.heap H locs → (∀ q : Nat, q < s.heap.size → H[q]? = s.heap[q]?) → ∀ ls : Array Slot, lv_has ls 5 [(0, .ref (a 34)), (1, .long (lz_f (lz_M σ k) (lz_f (lz_P σ k) (lz_pers σ (lz_rows σ (lz_f (lz_C σ) 3 9) (σ 0)) k) 8) j)), (3, .int (nI k)), (4, .int (nI j))] → W p l e rm_L_told s m args below meth c H locs cells slots (vx_MQ below (va_Ql (S := Unit) (fun r _ => r = lz_told σ) (fun _ _ => True) (fun _ => False)) (xX s.heap.size (fun E => False)) args s 400 2400 (fun q => s.heap.size ≤ q)) (F0 m 119 ls []) := by
        intro fuel
        induction fuel with
        | zero => intro j cells slots hkk hj hf hc hs; exact absurd hf (by omega)
        | succ fuel ih_119 =>
          intro j cells slots hkk hj hf hc hs H locs hP hS hk2 ls hl
          refine lv_iload hx hb dL_told_119 (lv_at hl 3 rfl) ?_
          refine lv_bipush (v := nI 6) hx hb dL_told_121 (by decide) ?_
          refine lv_icmp_ge (tgt := 147) hx hb dL_told_123 (by decide) (fun c_123 => ?_) (fun c_123 => ?_)
          · have n_123 := (nI_leI (a := 6) (b := j) (by omega) (by omega)).mp c_123
            obtain rfl : j = 6 := by omega
            refine lv_iinc (v := nI (k + 1)) (lv' := [(3, .int (nI (k + 1))), (0, .ref (a 34)), (1, .long (lz_f (lz_M σ k) (lz_f (lz_P σ k) (lz_pers σ (lz_rows σ (lz_f (lz_C σ) 3 9) (σ 0)) k) 8) 6)), (4, .int (nI 6))]) hx hb dL_told_147 hl (k := 2) rfl (nI_add _ _) (by decide) rfl (fun ls hl => ?_)
            refine lv_goto (tgt := 80) hx hb dL_told_150 (by decide) ?_
            exact ih_80 (k + 1) _ _ (by omega) (by omega) (by omega) (by omega) _ _ hP hS hk2 ls (lv_sub hl [1, 2, 0] rfl)
          · have n_123 := (not_congr (nI_leI (a := 6) (b := j) (by omega) (by omega))).mp c_123
            refine lv_ldc2 (v := 31) hx hb hown (hts (.constantLong RL 10 (31)) (by decide +kernel)) dL_told_126 ?_
            refine lv_lload_n hx hb dL_told_129 rfl (lv_at hl 1 rfl) ?_
            refine lv_lmul hx hb dL_told_130 ?_
            refine lv_aload_n hx hb dL_told_131 rfl (lv_at hl 0 rfl) ?_
            refine lv_iload_n hx hb dL_told_132 rfl (lv_at hl 2 rfl) ?_
            refine lv_iload hx hb dL_told_133 (lv_at hl 3 rfl) ?_
            refine lkV (As := [.int (nI k), .int (nI j)]) (rest := [.long (31 * (lz_f (lz_M σ k) (lz_f (lz_P σ k) (lz_pers σ (lz_rows σ (lz_f (lz_C σ) 3 9) (σ 0)) k) 8) j))]) (v := (remV σ k j)) (m_X8_remembered l Γ _ hfl a b rf f z F Z σ hX.1 hX.2.1 (nI k) (nI j)) (fun E => exc0 (re0 (k := k) (w := j) (by omega) (by omega))) (fun r h => vl_rem (σ := σ) (k := k) (w := j) (by omega) (by omega) h) hE S k_X8_remembered gL_told_X8_remembered rfl ⟨(Nat.le_of_ble_eq_true rfl), (Nat.le_of_ble_eq_true rfl)⟩ hK hP hS hA 0 (ci := 8) rfl rfl rfl rfl hl.1 (Nat.le_of_ble_eq_true rfl) rfl dL_told_135 ⟨by show _ ≤ 400; omega, by show _ ≤ 2400; omega⟩ (fun H locs hP hS1 hk9 => ?_)
            have hk2 := cE_keep hk9 hS.1 hk2
            have hS := hS1
            refine lv_i2l (v := (remV σ k j).toInt64) hx hb dL_told_138 rfl ?_
            refine lv_ladd hx hb dL_told_139 ?_
            refine asl (z := lz_f (lz_M σ k) (lz_f (lz_P σ k) (lz_pers σ (lz_rows σ (lz_f (lz_C σ) 3 9) (σ 0)) k) 8) (j + 1)) (rfl) ?_
            refine lv_lstore_n (lv' := [(1, .long (lz_f (lz_M σ k) (lz_f (lz_P σ k) (lz_pers σ (lz_rows σ (lz_f (lz_C σ) 3 9) (σ 0)) k) 8) (j + 1))), (0, .ref (a 34)), (3, .int (nI k)), (4, .int (nI j))]) hx hb dL_told_140 rfl hl (by decide) rfl (fun ls hl => ?_)
            refine lv_iinc (v := nI (j + 1)) (lv' := [(4, .int (nI (j + 1))), (1, .long (lz_f (lz_M σ k) (lz_f (lz_P σ k) (lz_pers σ (lz_rows σ (lz_f (lz_C σ) 3 9) (σ 0)) k) 8) (j + 1))), (0, .ref (a 34)), (3, .int (nI k))]) hx hb dL_told_141 hl (k := 3) rfl (nI_add _ _) (by decide) rfl (fun ls hl => ?_)
            refine lv_goto (tgt := 119) hx hb dL_told_144 (by decide) ?_
            exact ih_119 (j + 1) _ _ hkk (by omega) (by omega) (by omega) (by omega) _ _ hP hS hk2 ls (lv_sub hl [2, 1, 3, 0] rfl)
      have L_88 : ∀ (fuel : Nat), ∀ (j : Nat) (cells slots : Nat) (hkk : k < 5) (hj : j ≤ 8) (hf : 8 - j < fuel) (hc : cells + (2 * (8 - j) + 12 + 28 * (5 - (k + 1))) ≤ 326) (hs : slots + 6 * (2 * (8 - j) + 12 + 28 * (5 - (k + 1))) ≤ 1956), ∀ (H : Heap) (locs : List Loc), gP Γ (wXo Γ a b rf f z F Z) H → va_S (fun q => s.heap.size ≤ q) s.heap H locs → (∀ q : Nat, q < s.heap.size → H[q]? = s.heap[q]?) → ∀ ls : Array Slot, lv_has ls 5 [(0, .ref (a 34)), (1, .long (lz_f (lz_P σ k) (lz_pers σ (lz_rows σ (lz_f (lz_C σ) 3 9) (σ 0)) k) j)), (3, .int (nI k)), (4, .int (nI j))] → W p l e rm_L_told s m args below meth c H locs cells slots (vx_MQ below (va_Ql (S := Unit) (fun r _ => r = lz_told σ) (fun _ _ => True) (fun _ => False)) (xX s.heap.size (fun E => False)) args s 400 2400 (fun q => s.heap.size ≤ q)) (F0 m 88 ls []) := by
        intro fuel
        induction fuel with
        | zero => intro j cells slots hkk hj hf hc hs; exact absurd hf (by omega)
        | succ fuel ih_88 =>
          intro j cells slots hkk hj hf hc hs H locs hP hS hk2 ls hl
          refine lv_iload hx hb dL_told_88 (lv_at hl 3 rfl) ?_
          refine lv_bipush (v := nI 8) hx hb dL_told_90 (by decide) ?_
          refine lv_icmp_ge (tgt := 116) hx hb dL_told_92 (by decide) (fun c_92 => ?_) (fun c_92 => ?_)
          · have n_92 := (nI_leI (a := 8) (b := j) (by omega) (by omega)).mp c_92
            obtain rfl : j = 8 := by omega
            refine lv_iconst (v := nI 0) hx hb dL_told_116 (by decide) ?_
            refine lv_istore (lv' := [(4, .int (nI 0)), (0, .ref (a 34)), (1, .long (lz_f (lz_P σ k) (lz_pers σ (lz_rows σ (lz_f (lz_C σ) 3 9) (σ 0)) k) 8)), (3, .int (nI k))]) hx hb dL_told_117 hl (by decide) rfl (fun ls hl => ?_)
            exact L_119 (6 + 1) 0 _ _ (by omega) (by omega) (by omega) (by omega) (by omega) _ _ hP hS hk2 ls (lv_sub hl [1, 2, 3, 0] rfl)
          · have n_92 := (not_congr (nI_leI (a := 8) (b := j) (by omega) (by omega))).mp c_92
            refine lv_ldc2 (v := 31) hx hb hown (hts (.constantLong RL 10 (31)) (by decide +kernel)) dL_told_95 ?_
            refine lv_lload_n hx hb dL_told_98 rfl (lv_at hl 1 rfl) ?_
            refine lv_lmul hx hb dL_told_99 ?_
            refine lv_aload_n hx hb dL_told_100 rfl (lv_at hl 0 rfl) ?_
            refine lv_iload_n hx hb dL_told_101 rfl (lv_at hl 2 rfl) ?_
            refine lv_iload hx hb dL_told_102 (lv_at hl 3 rfl) ?_
            refine lkV (As := [.int (nI k), .int (nI j)]) (rest := [.long (31 * (lz_f (lz_P σ k) (lz_pers σ (lz_rows σ (lz_f (lz_C σ) 3 9) (σ 0)) k) j))]) (v := (perN σ k j)) (m_X8_personOf l Γ _ hfl a b rf f z F Z σ hX.1 hX.2.1 (nI k) (nI j)) (fun E => exc0 (pe0 (k := k) (w := j) (by omega) (by omega))) (fun r h => vl_per (σ := σ) (k := k) (w := j) (by omega) (by omega) h) hE S k_X8_personOf gL_told_X8_personOf rfl ⟨(Nat.le_of_ble_eq_true rfl), (Nat.le_of_ble_eq_true rfl)⟩ hK hP hS hA 0 (ci := 8) rfl rfl rfl rfl hl.1 (Nat.le_of_ble_eq_true rfl) rfl dL_told_104 ⟨by show _ ≤ 400; omega, by show _ ≤ 2400; omega⟩ (fun H locs hP hS1 hk9 => ?_)
            have hk2 := cE_keep hk9 hS.1 hk2
            have hS := hS1
            refine lv_i2l (v := (perN σ k j).toInt64) hx hb dL_told_107 rfl ?_
            refine lv_ladd hx hb dL_told_108 ?_
            refine asl (z := lz_f (lz_P σ k) (lz_pers σ (lz_rows σ (lz_f (lz_C σ) 3 9) (σ 0)) k) (j + 1)) (rfl) ?_
            refine lv_lstore_n (lv' := [(1, .long (lz_f (lz_P σ k) (lz_pers σ (lz_rows σ (lz_f (lz_C σ) 3 9) (σ 0)) k) (j + 1))), (0, .ref (a 34)), (3, .int (nI k)), (4, .int (nI j))]) hx hb dL_told_109 rfl hl (by decide) rfl (fun ls hl => ?_)
            refine lv_iinc (v := nI (j + 1)) (lv' := [(4, .int (nI (j + 1))), (1, .long (lz_f (lz_P σ k) (lz_pers σ (lz_rows σ (lz_f (lz_C σ) 3 9) (σ 0)) k) (j + 1))), (0, .ref (a 34)), (3, .int (nI k))]) hx hb dL_told_110 hl (k := 3) rfl (nI_add _ _) (by decide) rfl (fun ls hl => ?_)
            refine lv_goto (tgt := 88) hx hb dL_told_113 (by decide) ?_
            exact ih_88 (j + 1) _ _ hkk (by omega) (by omega) (by omega) (by omega) _ _ hP hS hk2 ls (lv_sub hl [2, 1, 3, 0] rfl)
      refine lv_iload_n hx hb dL_told_80 rfl (lv_at hl 2 rfl) ?_
      refine lv_iconst (v := nI 5) hx hb dL_told_81 (by decide) ?_
      refine lv_icmp_ge (tgt := 153) hx hb dL_told_82 (by decide) (fun c_82 => ?_) (fun c_82 => ?_)
      · have n_82 := (nI_leI (a := 5) (b := k) (by omega) (by omega)).mp c_82
        obtain rfl : k = 5 := by omega
        refine lv_lload_n hx hb dL_told_153 rfl (lv_at hl 1 rfl) ?_
        refine W.widen (k := 400) (n := 2400) (by omega) (by omega) ?_
        exact vx_ret (W.lret (v := lz_pers σ (lz_rows σ (lz_f (lz_C σ) 3 9) (σ 0)) 5) hx hb hrt (fun t9 ht9 hW9 => ⟨⟨_, (), rfl, rfl, trivial⟩, eF hS.1 hk2 ht9⟩) hS.2.2 dL_told_154 hlk)
      · have n_82 := (not_congr (nI_leI (a := 5) (b := k) (by omega) (by omega))).mp c_82
        refine lv_iconst (v := nI 0) hx hb dL_told_85 (by decide) ?_
        refine lv_istore (lv' := [(4, .int (nI 0)), (0, .ref (a 34)), (1, .long (lz_pers σ (lz_rows σ (lz_f (lz_C σ) 3 9) (σ 0)) k)), (3, .int (nI k))]) hx hb dL_told_86 hl (by decide) rfl (fun ls hl => ?_)
        exact L_88 (8 + 1) 0 _ _ (by omega) (by omega) (by omega) (by omega) (by omega) _ _ hP hS hk2 ls (lv_sub hl [1, 2, 3, 0] rfl)
  have L_33 : ∀ (fuel : Nat), ∀ (k : Nat) (cells slots : Nat) (hk : k ≤ σ 0) (hfk : σ 0 - k < fuel) (hc : cells + (11 * (σ 0 - k) + 1) ≤ 186) (hs : slots + 6 * (11 * (σ 0 - k) + 1) ≤ 1116), ∀ (H : Heap) (locs : List Loc), gP Γ (wXo Γ a b rf f z F Z) H → va_S (fun q => s.heap.size ≤ q) s.heap H locs → (∀ q : Nat, q < s.heap.size → H[q]? = s.heap[q]?) → ∀ ls : Array Slot, lv_has ls 5 [(0, .ref (a 34)), (1, .long (lz_rows σ (lz_f (lz_C σ) 3 9) k)), (3, .int (nI k))] → W p l e rm_L_told s m args below meth c H locs cells slots (vx_MQ below (va_Ql (S := Unit) (fun r _ => r = lz_told σ) (fun _ _ => True) (fun _ => False)) (xX s.heap.size (fun E => False)) args s 400 2400 (fun q => s.heap.size ≤ q)) (F0 m 33 ls []) := by
    intro fuel
    induction fuel with
    | zero => intro k cells slots hk hfk hc hs; exact absurd hfk (by omega)
    | succ fuel ih_33 =>
      intro k cells slots hk hfk hc hs H locs hP hS hk2 ls hl
      have L_45 : ∀ (fuel : Nat), ∀ (j : Nat) (cells slots : Nat) (hkk : k < σ 0) (hj : j ≤ 5) (hf : 5 - j < fuel) (hc : cells + (2 * (5 - j) + 11 * (σ 0 - (k + 1)) + 1) ≤ 186) (hs : slots + 6 * (2 * (5 - j) + 11 * (σ 0 - (k + 1)) + 1) ≤ 1116), ∀ (H : Heap) (locs : List Loc), gP Γ (wXo Γ a b rf f z F Z) H → va_S (fun q => s.heap.size ≤ q) s.heap H locs → (∀ q : Nat, q < s.heap.size → H[q]? = s.heap[q]?) → ∀ ls : Array Slot, lv_has ls 5 [(0, .ref (a 34)), (1, .long (lz_f (lz_R σ k) (lz_rows σ (lz_f (lz_C σ) 3 9) k) j)), (3, .int (nI k)), (4, .int (nI j))] → W p l e rm_L_told s m args below meth c H locs cells slots (vx_MQ below (va_Ql (S := Unit) (fun r _ => r = lz_told σ) (fun _ _ => True) (fun _ => False)) (xX s.heap.size (fun E => False)) args s 400 2400 (fun q => s.heap.size ≤ q)) (F0 m 45 ls []) := by
        intro fuel
        induction fuel with
        | zero => intro j cells slots hkk hj hf hc hs; exact absurd hf (by omega)
        | succ fuel ih_45 =>
          intro j cells slots hkk hj hf hc hs H locs hP hS hk2 ls hl
          refine lv_iload hx hb dL_told_45 (lv_at hl 3 rfl) ?_
          refine lv_iconst (v := nI 5) hx hb dL_told_47 (by decide) ?_
          refine lv_icmp_ge (tgt := 72) hx hb dL_told_48 (by decide) (fun c_48 => ?_) (fun c_48 => ?_)
          · have n_48 := (nI_leI (a := 5) (b := j) (by omega) (by omega)).mp c_48
            obtain rfl : j = 5 := by omega
            refine lv_iinc (v := nI (k + 1)) (lv' := [(3, .int (nI (k + 1))), (0, .ref (a 34)), (1, .long (lz_f (lz_R σ k) (lz_rows σ (lz_f (lz_C σ) 3 9) k) 5)), (4, .int (nI 5))]) hx hb dL_told_72 hl (k := 2) rfl (nI_add _ _) (by decide) rfl (fun ls hl => ?_)
            refine lv_goto (tgt := 33) hx hb dL_told_75 (by decide) ?_
            exact ih_33 (k + 1) _ _ (by omega) (by omega) (by omega) (by omega) _ _ hP hS hk2 ls (lv_sub hl [1, 2, 0] rfl)
          · have n_48 := (not_congr (nI_leI (a := 5) (b := j) (by omega) (by omega))).mp c_48
            refine lv_ldc2 (v := 31) hx hb hown (hts (.constantLong RL 10 (31)) (by decide +kernel)) dL_told_51 ?_
            refine lv_lload_n hx hb dL_told_54 rfl (lv_at hl 1 rfl) ?_
            refine lv_lmul hx hb dL_told_55 ?_
            refine lv_aload_n hx hb dL_told_56 rfl (lv_at hl 0 rfl) ?_
            refine lv_iload_n hx hb dL_told_57 rfl (lv_at hl 2 rfl) ?_
            refine lv_iload hx hb dL_told_58 (lv_at hl 3 rfl) ?_
            refine lkV (As := [.int (nI k), .int (nI j)]) (rest := [.long (31 * (lz_f (lz_R σ k) (lz_rows σ (lz_f (lz_C σ) 3 9) k) j))]) (v := (nI (rowN σ k j))) (m_X8_rowOf l Γ _ hfl a b rf f z F Z σ hX.1 hX.2.1 (nI k) (nI j)) (fun E => exc0 (rw0 (k := k) (w := j) (by omega) hX.2.1.n (by omega))) (fun r h => vl_row (σ := σ) (k := k) (w := j) (by have := hX.2.1.n; omega) (by omega) h) hE S k_X8_rowOf gL_told_X8_rowOf rfl ⟨(Nat.le_of_ble_eq_true rfl), (Nat.le_of_ble_eq_true rfl)⟩ hK hP hS hA 0 (ci := 8) rfl rfl rfl rfl hl.1 (Nat.le_of_ble_eq_true rfl) rfl dL_told_60 ⟨by show _ ≤ 400; omega, by show _ ≤ 2400; omega⟩ (fun H locs hP hS1 hk9 => ?_)
            have hk2 := cE_keep hk9 hS.1 hk2
            have hS := hS1
            refine lv_i2l (v := (nI (rowN σ k j)).toInt64) hx hb dL_told_63 rfl ?_
            refine lv_ladd hx hb dL_told_64 ?_
            refine asl (z := lz_f (lz_R σ k) (lz_rows σ (lz_f (lz_C σ) 3 9) k) (j + 1)) (rfl) ?_
            refine lv_lstore_n (lv' := [(1, .long (lz_f (lz_R σ k) (lz_rows σ (lz_f (lz_C σ) 3 9) k) (j + 1))), (0, .ref (a 34)), (3, .int (nI k)), (4, .int (nI j))]) hx hb dL_told_65 rfl hl (by decide) rfl (fun ls hl => ?_)
            refine lv_iinc (v := nI (j + 1)) (lv' := [(4, .int (nI (j + 1))), (1, .long (lz_f (lz_R σ k) (lz_rows σ (lz_f (lz_C σ) 3 9) k) (j + 1))), (0, .ref (a 34)), (3, .int (nI k))]) hx hb dL_told_66 hl (k := 3) rfl (nI_add _ _) (by decide) rfl (fun ls hl => ?_)
            refine lv_goto (tgt := 45) hx hb dL_told_69 (by decide) ?_
            exact ih_45 (j + 1) _ _ hkk (by omega) (by omega) (by omega) (by omega) _ _ hP hS hk2 ls (lv_sub hl [2, 1, 3, 0] rfl)
      refine lv_iload_n hx hb dL_told_33 rfl (lv_at hl 2 rfl) ?_
      refine lv_aload_n hx hb dL_told_34 rfl (lv_at hl 0 rfl) ?_
      refine lv_iconst (v := nI 0) hx hb dL_told_35 (by decide) ?_
      refine lkV (As := [.int (nI 0)]) (rest := [.int (nI k)]) (v := (nI (σ 0))) (m_X8_count l Γ _ hfl a b rf f z F Z σ hX.1 hX.2.1 (nI 0)) (fun E => exc0 (co0 (w := 0) (by decide))) (fun r h => vl_cnt (σ := σ) (z := z) (w := 0) (by decide) h) hE S k_X8_count gL_told_X8_count rfl ⟨(Nat.le_of_ble_eq_true rfl), (Nat.le_of_ble_eq_true rfl)⟩ hK hP hS hA 0 (ci := 8) rfl rfl rfl rfl hl.1 (Nat.le_of_ble_eq_true rfl) rfl dL_told_36 ⟨by show _ ≤ 400; omega, by show _ ≤ 2400; omega⟩ (fun H locs hP hS1 hk9 => ?_)
      have hk2 := cE_keep hk9 hS.1 hk2
      have hS := hS1
      refine lv_icmp_ge (tgt := 78) hx hb dL_told_39 (by decide) (fun c_39 => ?_) (fun c_39 => ?_)
      · have n_39 := (nI_leI (a := (σ 0)) (b := k) (by omega) (by omega)).mp c_39
        obtain rfl : k = σ 0 := by omega
        refine lv_iconst (v := nI 0) hx hb dL_told_78 (by decide) ?_
        refine lv_istore_n (lv' := [(3, .int (nI 0)), (0, .ref (a 34)), (1, .long (lz_rows σ (lz_f (lz_C σ) 3 9) (σ 0)))]) hx hb dL_told_79 rfl hl (by decide) rfl (fun ls hl => ?_)
        exact L_80 (5 + 1) 0 _ _ (by omega) (by omega) (by omega) (by omega) _ _ hP hS hk2 ls (lv_sub hl [1, 2, 0] rfl)
      · have n_39 := (not_congr (nI_leI (a := (σ 0)) (b := k) (by omega) (by omega))).mp c_39
        refine lv_iconst (v := nI 0) hx hb dL_told_42 (by decide) ?_
        refine lv_istore (lv' := [(4, .int (nI 0)), (0, .ref (a 34)), (1, .long (lz_rows σ (lz_f (lz_C σ) 3 9) k)), (3, .int (nI k))]) hx hb dL_told_43 hl (by decide) rfl (fun ls hl => ?_)
        exact L_45 (5 + 1) 0 _ _ (by omega) (by omega) (by omega) (by omega) (by omega) _ _ hP hS hk2 ls (lv_sub hl [1, 2, 3, 0] rfl)
  have L_6 : ∀ (fuel : Nat), ∀ (k : Nat) (cells slots : Nat) (hk : k ≤ 9) (hfk : 9 - k < fuel) (hc : cells + (9 - k) ≤ 9) (hs : slots + 6 * (9 - k) ≤ 54), ∀ (H : Heap) (locs : List Loc), gP Γ (wXo Γ a b rf f z F Z) H → va_S (fun q => s.heap.size ≤ q) s.heap H locs → (∀ q : Nat, q < s.heap.size → H[q]? = s.heap[q]?) → ∀ ls : Array Slot, lv_has ls 5 [(0, .ref (a 34)), (1, .long (lz_f (lz_C σ) 3 k)), (3, .int (nI k))] → W p l e rm_L_told s m args below meth c H locs cells slots (vx_MQ below (va_Ql (S := Unit) (fun r _ => r = lz_told σ) (fun _ _ => True) (fun _ => False)) (xX s.heap.size (fun E => False)) args s 400 2400 (fun q => s.heap.size ≤ q)) (F0 m 6 ls []) := by
    intro fuel
    induction fuel with
    | zero => intro k cells slots hk hfk hc hs; exact absurd hfk (by omega)
    | succ fuel ih_6 =>
      intro k cells slots hk hfk hc hs H locs hP hS hk2 ls hl
      refine lv_iload_n hx hb dL_told_6 rfl (lv_at hl 2 rfl) ?_
      refine lv_bipush (v := nI 9) hx hb dL_told_7 (by decide) ?_
      refine lv_icmp_ge (tgt := 31) hx hb dL_told_9 (by decide) (fun c_9 => ?_) (fun c_9 => ?_)
      · have n_9 := (nI_leI (a := 9) (b := k) (by omega) (by omega)).mp c_9
        obtain rfl : k = 9 := by omega
        refine lv_iconst (v := nI 0) hx hb dL_told_31 (by decide) ?_
        refine lv_istore_n (lv' := [(3, .int (nI 0)), (0, .ref (a 34)), (1, .long (lz_f (lz_C σ) 3 9))]) hx hb dL_told_32 rfl hl (by decide) rfl (fun ls hl => ?_)
        exact L_33 (σ 0 + 1) 0 _ _ (by omega) (by omega) (by omega) (by omega) _ _ hP hS hk2 ls (lv_sub hl [1, 2, 0] rfl)
      · have n_9 := (not_congr (nI_leI (a := 9) (b := k) (by omega) (by omega))).mp c_9
        refine lv_ldc2 (v := 31) hx hb hown (hts (.constantLong RL 10 (31)) (by decide +kernel)) dL_told_12 ?_
        refine lv_lload_n hx hb dL_told_15 rfl (lv_at hl 1 rfl) ?_
        refine lv_lmul hx hb dL_told_16 ?_
        refine lv_aload_n hx hb dL_told_17 rfl (lv_at hl 0 rfl) ?_
        refine lv_iload_n hx hb dL_told_18 rfl (lv_at hl 2 rfl) ?_
        refine lkV (As := [.int (nI k)]) (rest := [.long (31 * (lz_f (lz_C σ) 3 k))]) (v := (cntQ σ 0 k)) (m_X8_count l Γ _ hfl a b rf f z F Z σ hX.1 hX.2.1 (nI k)) (fun E => exc0 (co0 (w := k) (by omega))) (fun r h => vl_cnt (σ := σ) (z := z) (w := k) (by omega) h) hE S k_X8_count gL_told_X8_count rfl ⟨(Nat.le_of_ble_eq_true rfl), (Nat.le_of_ble_eq_true rfl)⟩ hK hP hS hA 0 (ci := 8) rfl rfl rfl rfl hl.1 (Nat.le_of_ble_eq_true rfl) rfl dL_told_19 ⟨by show _ ≤ 400; omega, by show _ ≤ 2400; omega⟩ (fun H locs hP hS1 hk9 => ?_)
        have hk2 := cE_keep hk9 hS.1 hk2
        have hS := hS1
        refine lv_i2l (v := (cntQ σ 0 k).toInt64) hx hb dL_told_22 rfl ?_
        refine lv_ladd hx hb dL_told_23 ?_
        refine asl (z := lz_f (lz_C σ) 3 (k + 1)) (rfl) ?_
        refine lv_lstore_n (lv' := [(1, .long (lz_f (lz_C σ) 3 (k + 1))), (0, .ref (a 34)), (3, .int (nI k))]) hx hb dL_told_24 rfl hl (by decide) rfl (fun ls hl => ?_)
        refine lv_iinc (v := nI (k + 1)) (lv' := [(3, .int (nI (k + 1))), (1, .long (lz_f (lz_C σ) 3 (k + 1))), (0, .ref (a 34))]) hx hb dL_told_25 hl (k := 2) rfl (nI_add _ _) (by decide) rfl (fun ls hl => ?_)
        refine lv_goto (tgt := 6) hx hb dL_told_28 (by decide) ?_
        exact ih_6 (k + 1) _ _ (by omega) (by omega) (by omega) (by omega) _ _ hP hS hk2 ls (lv_sub hl [2, 1, 0] rfl)
  refine lv_ldc2 (v := 3) hx hb hown (hts (.constantLong RL 8 (3)) (by decide +kernel)) dL_told_0 ?_
  refine lv_lstore_n (lv' := [(1, .long 3), (0, .ref (a 34))]) hx hb dL_told_3 rfl hl (by decide) rfl (fun ls hl => ?_)
  refine lv_iconst (v := nI 0) hx hb dL_told_4 (by decide) ?_
  refine lv_istore_n (lv' := [(3, .int (nI 0)), (1, .long 3), (0, .ref (a 34))]) hx hb dL_told_5 rfl hl (by decide) rfl (fun ls hl => ?_)
  exact L_6 (9 + 1) 0 _ _ (by omega) (by omega) (by omega) (by omega) _ _ hP hS hk2 ls (lv_sub hl [2, 1, 0] rfl)

