abbrev rm_L_holds : Room := { frames := 8, cells := 400, slots := 2400, locals := 159 }
theorem k_L_holds : Cal yL_holds wsL_holds rm_L_holds cL_holds 13 (some .boolean) 2 400 2400 := ⟨⟨_, rfl⟩, rfl, rfl, by decide +kernel⟩
set_option maxHeartbeats 4000000 in
set_option maxRecDepth 100000 in
theorem m_L_holds (l : Launch) (Γ : Gm) (sz : Nat) (hfl : l.stackTraces = false) (a : Nat → Nat) (b : Nat → Nat → Nat) (rf : Nat → Option Nat) (hrf : ∀ i, i < 6 → rf i = some (b i 0)) (f : Nat → Nat → Int32) (z : Nat → Int32) (F : Nat → Nat → Nat → Int32) (Z : Nat → Nat → Int32) (σ : Nat → Nat) (sc : Nat) (ss : Nat → Nat → Nat) (nb : Nat) (bb : Nat → Nat) (hX : XR σ sc ss nb bb f z F Z) (n : Nat) (hn1 : n ≤ 1000) (hG : GI n σ) (w : Int32) : MEi l yL_holds wsL_holds rm_L_holds Γ sz (wXo Γ a b rf f z F Z) [.ref (a 34), .int w] (fun r => r = nI 1) (fun E => False) 400 2400 := by
  refine mE (cc := cL_holds) (maxL := 13) (ret := (some .boolean)) (own := RL) (by decide) rfl rfl (Nat.le_of_ble_eq_true rfl) ?_
  intro p e s m args below meth c S hrt hlk htab hsz hE hK hP ls hl
  subst hsz
  have hA : ∀ q, s.heap.size ≤ q → (fun q => s.heap.size ≤ q) q := fun _ h => h
  have hS : va_S (fun q => s.heap.size ≤ q) s.heap s.heap [] := va_S.rf
  have hk2 : ∀ q : Nat, q < s.heap.size → s.heap[q]? = s.heap[q]? := fun _ _ => rfl
  obtain ⟨hx, hb, hml, hown, hts⟩ := id S
  have hn := hX.2.1.n
  have hI := hX.2.1
  obtain ⟨a0, ea⟩ : ∃ a0, a0 = lowN w 5 := ⟨_, rfl⟩
  obtain ⟨j0, ej⟩ : ∃ j0, j0 = lowN (w >>> (nI 3 &&& 31)) 5 := ⟨_, rfl⟩
  obtain ⟨lo, el⟩ : ∃ lo, lo = lowN (w >>> (nI 6 &&& 31)) 60 := ⟨_, rfl⟩
  have ha0 : a0 < 5 := by rw [ea]; exact lowN_lt _ (by decide)
  have hj0 : j0 < 5 := by rw [ej]; exact lowN_lt _ (by decide)
  have hlo : lo < 60 := by rw [el]; exact lowN_lt _ (by decide)
  have hsu := sums_le hG (j := 5) (Nat.le_refl 5)
  have hon := ones_le (seenQ σ a0 (nI j0 - nI 1) lo 99)
  have hvp := veil_pair hI
  have hhi := hid_le σ
  have hrm := rowM_ge (a := a0) hI (nI j0 - nI 1) lo 99
  have hrl := rowM_le hI (nI j0 - nI 1) lo 99
  have hps := pairS_le σ 5
  have hl : lv_has ls 13 [(0, .ref (a 34)), (1, .int w)] := hl
  have hP : gP Γ (wXo Γ a b rf f z F Z) s.heap := hP
  have L_398 : ∀  (cells slots : Nat) (hc : cells + 20 ≤ 380) (hs : slots + 120 ≤ 2280), ∀ (H : Heap) (locs : List Loc), gP Γ (wXo Γ a b rf f z F Z) H → va_S (fun q => s.heap.size ≤ q) s.heap H locs → (∀ q : Nat, q < s.heap.size → H[q]? = s.heap[q]?) → ∀ ls : Array Slot, lv_has ls 13 [(0, .ref (a 34)), (1, .int w), (2, .int (nI (σ 0))), (3, .int (nI a0)), (4, .int (nI j0 - nI 1)), (5, .int (nI lo)), (6, .int (nI (ones (seenQ σ a0 (nI j0 - nI 1) lo 99)))), (8, .int (nI (sumP σ 3 5))), (9, .int (nI (sumP σ 4 5))), (10, .int (nI (pairS σ 5))), (11, .int (nI (hidQ σ 0 + hidQ σ 1 + hidQ σ 2 + hidQ σ 3)))] → W p l e rm_L_holds s m args below meth c H locs cells slots (vx_MQ below (va_Qi (S := Unit) (fun r _ => r = nI 1) (fun _ _ => True) (fun _ => False)) (xX s.heap.size (fun E => False)) args s 400 2400 (fun q => s.heap.size ≤ q)) (F0 m 398 ls []) := by
    intro cells slots hc hs H locs hP hS hk2 ls hl
    refine lv_iconst (v := nI 1) hx hb dL_holds_398 (by decide) ?_
    refine lv_goto (tgt := 403) hx hb dL_holds_399 (by decide) ?_
    refine lv_istore (lv' := [(12, .int (nI 1)), (0, .ref (a 34)), (1, .int w), (2, .int (nI (σ 0))), (3, .int (nI a0)), (4, .int (nI j0 - nI 1)), (5, .int (nI lo)), (6, .int (nI (ones (seenQ σ a0 (nI j0 - nI 1) lo 99)))), (8, .int (nI (sumP σ 3 5))), (9, .int (nI (sumP σ 4 5))), (10, .int (nI (pairS σ 5))), (11, .int (nI (hidQ σ 0 + hidQ σ 1 + hidQ σ 2 + hidQ σ 3)))]) hx hb dL_holds_403 hl (by decide) rfl (fun ls hl => ?_)
    refine lv_iload hx hb dL_holds_405 (lv_at hl 0 rfl) ?_
    refine lv_if_eq (tgt := 503) hx hb dL_holds_407 (by decide) (fun c_407 => ?_) (fun c_407 => ?_)
    · exact absurd c_407 (by decide)
    · refine lv_aload_n hx hb dL_holds_410 rfl (lv_at hl 1 rfl) ?_
      refine lv_iload_n hx hb dL_holds_411 rfl (lv_at hl 4 rfl) ?_
      refine lv_iload hx hb dL_holds_412 (lv_at hl 5 rfl) ?_
      refine lv_iload hx hb dL_holds_414 (lv_at hl 6 rfl) ?_
      refine lv_bipush (v := nI 99) hx hb dL_holds_416 (by decide) ?_
      refine lv_iconst (v := nI 3) hx hb dL_holds_418 (by decide) ?_
      refine lkV (As := [.int (nI a0), .int (nI j0 - nI 1), .int (nI lo), .int (nI 99), .int (nI 3)]) (rest := []) (v := (nI (rowM σ (nI j0 - nI 1) lo 99))) (m_X8_ifAsked l Γ _ hfl a b rf f z F Z σ hX.1 hX.2.1 (nI a0) (nI j0 - nI 1) (nI lo) (nI 99) (nI 3)) (fun E => exc0 (if0 (a := a0) (j := j0) (lo := lo) (hi := 99) (w := 3) (by omega) (by omega) (by omega) (by omega) (by decide))) (fun r h => vl_ifa (σ := σ) (a := a0) (pl := nI j0 - nI 1) (lo := lo) (hi := 99) (w := 3) (by omega) (by omega) (by omega) (by decide) h) hE S k_X8_ifAsked gL_holds_X8_ifAsked rfl ⟨(Nat.le_of_ble_eq_true rfl), (Nat.le_of_ble_eq_true rfl)⟩ hK hP hS hA 0 (ci := 8) rfl rfl rfl rfl hl.1 (Nat.le_of_ble_eq_true rfl) rfl dL_holds_419 ⟨by show _ ≤ 400; omega, by show _ ≤ 2400; omega⟩ (fun H locs hP hS1 hk9 => ?_)
      have hk2 := cE_keep hk9 hS.1 hk2
      have hS := hS1
      refine lv_iload hx hb dL_holds_422 (lv_at hl 7 rfl) ?_
      refine lv_icmp_lt (tgt := 503) hx hb dL_holds_424 (by decide) (fun c_424 => ?_) (fun c_424 => ?_)
      · have n_424 := (nI_ltI (a := (rowM σ (nI j0 - nI 1) lo 99)) (b := (ones (seenQ σ a0 (nI j0 - nI 1) lo 99))) (by omega) (by omega)).mp c_424
        exact absurd n_424 (by omega)
      · have n_424 := (not_congr (nI_ltI (a := (rowM σ (nI j0 - nI 1) lo 99)) (b := (ones (seenQ σ a0 (nI j0 - nI 1) lo 99))) (by omega) (by omega))).mp c_424
        refine lv_iload hx hb dL_holds_427 (lv_at hl 8 rfl) ?_
        refine lv_aload_n hx hb dL_holds_429 rfl (lv_at hl 1 rfl) ?_
        refine lv_iconst (v := nI 5) hx hb dL_holds_430 (by decide) ?_
        refine lkV (As := [.int (nI 5)]) (rest := [.int (nI (sumP σ 3 5))]) (v := (nI (sumP σ 3 5))) (m_X8_count l Γ _ hfl a b rf f z F Z σ hX.1 hX.2.1 (nI 5)) (fun E => exc0 (co0 (w := 5) (by decide))) (fun r h => vl_cnt (σ := σ) (z := z) (w := 5) (by decide) h) hE S k_X8_count gL_holds_X8_count rfl ⟨(Nat.le_of_ble_eq_true rfl), (Nat.le_of_ble_eq_true rfl)⟩ hK hP hS hA 0 (ci := 8) rfl rfl rfl rfl hl.1 (Nat.le_of_ble_eq_true rfl) rfl dL_holds_431 ⟨by show _ ≤ 400; omega, by show _ ≤ 2400; omega⟩ (fun H locs hP hS1 hk9 => ?_)
        have hk2 := cE_keep hk9 hS.1 hk2
        have hS := hS1
        refine lv_icmp_ne (tgt := 503) hx hb dL_holds_434 (by decide) (fun c_434 => ?_) (fun c_434 => ?_)
        · exact absurd rfl c_434
        · refine lv_iload hx hb dL_holds_437 (lv_at hl 9 rfl) ?_
          refine lv_aload_n hx hb dL_holds_439 rfl (lv_at hl 1 rfl) ?_
          refine lv_bipush (v := nI 6) hx hb dL_holds_440 (by decide) ?_
          refine lkV (As := [.int (nI 6)]) (rest := [.int (nI (sumP σ 4 5))]) (v := (nI (sumP σ 4 5))) (m_X8_count l Γ _ hfl a b rf f z F Z σ hX.1 hX.2.1 (nI 6)) (fun E => exc0 (co0 (w := 6) (by decide))) (fun r h => vl_cnt (σ := σ) (z := z) (w := 6) (by decide) h) hE S k_X8_count gL_holds_X8_count rfl ⟨(Nat.le_of_ble_eq_true rfl), (Nat.le_of_ble_eq_true rfl)⟩ hK hP hS hA 0 (ci := 8) rfl rfl rfl rfl hl.1 (Nat.le_of_ble_eq_true rfl) rfl dL_holds_442 ⟨by show _ ≤ 400; omega, by show _ ≤ 2400; omega⟩ (fun H locs hP hS1 hk9 => ?_)
          have hk2 := cE_keep hk9 hS.1 hk2
          have hS := hS1
          refine lv_icmp_ne (tgt := 503) hx hb dL_holds_445 (by decide) (fun c_445 => ?_) (fun c_445 => ?_)
          · exact absurd rfl c_445
          · refine lv_iload hx hb dL_holds_448 (lv_at hl 9 rfl) ?_
            refine lv_iload hx hb dL_holds_450 (lv_at hl 8 rfl) ?_
            refine lv_icmp_gt (tgt := 503) hx hb dL_holds_452 (by decide) (fun c_452 => ?_) (fun c_452 => ?_)
            · have n_452 := (nI_ltI (a := (sumP σ 3 5)) (b := (sumP σ 4 5)) (by omega) (by omega)).mp c_452
              exact absurd n_452 (by omega)
            · have n_452 := (not_congr (nI_ltI (a := (sumP σ 3 5)) (b := (sumP σ 4 5)) (by omega) (by omega))).mp c_452
              refine lv_iload hx hb dL_holds_455 (lv_at hl 10 rfl) ?_
              refine lv_aload_n hx hb dL_holds_457 rfl (lv_at hl 1 rfl) ?_
              refine lv_bipush (v := nI 8) hx hb dL_holds_458 (by decide) ?_
              refine lkV (As := [.int (nI 8)]) (rest := [.int (nI (pairS σ 5))]) (v := (nI (veilN σ))) (m_X8_count l Γ _ hfl a b rf f z F Z σ hX.1 hX.2.1 (nI 8)) (fun E => exc0 (co0 (w := 8) (by decide))) (fun r h => vl_cnt (σ := σ) (z := z) (w := 8) (by decide) h) hE S k_X8_count gL_holds_X8_count rfl ⟨(Nat.le_of_ble_eq_true rfl), (Nat.le_of_ble_eq_true rfl)⟩ hK hP hS hA 0 (ci := 8) rfl rfl rfl rfl hl.1 (Nat.le_of_ble_eq_true rfl) rfl dL_holds_460 ⟨by show _ ≤ 400; omega, by show _ ≤ 2400; omega⟩ (fun H locs hP hS1 hk9 => ?_)
              have hk2 := cE_keep hk9 hS.1 hk2
              have hS := hS1
              refine lv_iadd hx hb dL_holds_463 ?_
              refine asi (z := nI ((pairS σ 5) + (veilN σ))) (nI_add _ _) ?_
              refine lv_iconst (v := nI 5) hx hb dL_holds_464 (by decide) ?_
              refine lv_iload_n hx hb dL_holds_465 rfl (lv_at hl 3 rfl) ?_
              refine lv_imul hx hb dL_holds_466 ?_
              refine asi (z := nI (5 * (σ 0))) (pk_mul _ _) ?_
              refine lv_icmp_ne (tgt := 503) hx hb dL_holds_467 (by decide) (fun c_467 => ?_) (fun c_467 => ?_)
              · exact absurd (congrArg nI (by omega)) c_467
              · refine lv_iload hx hb dL_holds_470 (lv_at hl 11 rfl) ?_
                refine lv_aload_n hx hb dL_holds_472 rfl (lv_at hl 1 rfl) ?_
                refine lv_bipush (v := nI 8) hx hb dL_holds_473 (by decide) ?_
                refine lkV (As := [.int (nI 8)]) (rest := [.int (nI (hidQ σ 0 + hidQ σ 1 + hidQ σ 2 + hidQ σ 3))]) (v := (nI (veilN σ))) (m_X8_count l Γ _ hfl a b rf f z F Z σ hX.1 hX.2.1 (nI 8)) (fun E => exc0 (co0 (w := 8) (by decide))) (fun r h => vl_cnt (σ := σ) (z := z) (w := 8) (by decide) h) hE S k_X8_count gL_holds_X8_count rfl ⟨(Nat.le_of_ble_eq_true rfl), (Nat.le_of_ble_eq_true rfl)⟩ hK hP hS hA 0 (ci := 8) rfl rfl rfl rfl hl.1 (Nat.le_of_ble_eq_true rfl) rfl dL_holds_475 ⟨by show _ ≤ 400; omega, by show _ ≤ 2400; omega⟩ (fun H locs hP hS1 hk9 => ?_)
                have hk2 := cE_keep hk9 hS.1 hk2
                have hS := hS1
                refine lv_icmp_gt (tgt := 503) hx hb dL_holds_478 (by decide) (fun c_478 => ?_) (fun c_478 => ?_)
                · have n_478 := (nI_ltI (a := (veilN σ)) (b := (hidQ σ 0 + hidQ σ 1 + hidQ σ 2 + hidQ σ 3)) (by omega) (by omega)).mp c_478
                  exact absurd n_478 (by omega)
                · have n_478 := (not_congr (nI_ltI (a := (veilN σ)) (b := (hidQ σ 0 + hidQ σ 1 + hidQ σ 2 + hidQ σ 3)) (by omega) (by omega))).mp c_478
                  refine lv_aload_n hx hb dL_holds_481 rfl (lv_at hl 1 rfl) ?_
                  refine lkD (As := []) (rest := []) (m_X8_openness l Γ a b rf f z F Z σ hX.1 hX.2.1) S k_X8_openness gL_holds_X8_openness rfl ⟨(Nat.le_of_ble_eq_true rfl), (Nat.le_of_ble_eq_true rfl)⟩ hK hP 0 (ci := 8) rfl rfl rfl rfl hl.1 (Nat.le_of_ble_eq_true rfl) rfl dL_holds_482 ⟨by show _ ≤ 400; omega, by show _ ≤ 2400; omega⟩ (fun r hr => ?_)
                  subst hr
                  refine lv_dconst0 hx hb dL_holds_485 ?_
                  refine lv_dcmp hx hb dL_holds_486 ?_
                  refine lv_if_lt (tgt := 503) hx hb dL_holds_487 (by decide) (fun c_487 => ?_) (fun c_487 => ?_)
                  · exact absurd c_487 (share_in hI).1
                  · refine lv_aload_n hx hb dL_holds_490 rfl (lv_at hl 1 rfl) ?_
                    refine lkD (As := []) (rest := []) (m_X8_openness l Γ a b rf f z F Z σ hX.1 hX.2.1) S k_X8_openness gL_holds_X8_openness rfl ⟨(Nat.le_of_ble_eq_true rfl), (Nat.le_of_ble_eq_true rfl)⟩ hK hP 0 (ci := 8) rfl rfl rfl rfl hl.1 (Nat.le_of_ble_eq_true rfl) rfl dL_holds_491 ⟨by show _ ≤ 400; omega, by show _ ≤ 2400; omega⟩ (fun r hr => ?_)
                    subst hr
                    refine lv_dconst1 hx hb dL_holds_494 ?_
                    refine lv_dcmp hx hb dL_holds_495 ?_
                    refine lv_if_gt (tgt := 503) hx hb dL_holds_496 (by decide) (fun c_496 => ?_) (fun c_496 => ?_)
                    · exact absurd c_496 (share_in hI).2
                    · refine lv_iconst (v := nI 1) hx hb dL_holds_499 (by decide) ?_
                      refine lv_goto (tgt := 504) hx hb dL_holds_500 (by decide) ?_
                      refine W.widen (k := 400) (n := 2400) (by omega) (by omega) ?_
                      exact vx_ret (W.zret (v := nI 1) hx hb hrt z1 (fun t9 ht9 hW9 => ⟨⟨_, (), rfl, rfl, trivial⟩, eF hS.1 hk2 ht9⟩) hS.2.2 dL_holds_504 hlk)
  have L_239 : ∀ (fuel : Nat), ∀ (k : Nat) (cells slots : Nat) (hk : k ≤ 5) (hfk : 5 - k < fuel) (hc : cells + (14 * (5 - k) + 40) ≤ 380) (hs : slots + 6 * (14 * (5 - k) + 40) ≤ 2280), ∀ (H : Heap) (locs : List Loc), gP Γ (wXo Γ a b rf f z F Z) H → va_S (fun q => s.heap.size ≤ q) s.heap H locs → (∀ q : Nat, q < s.heap.size → H[q]? = s.heap[q]?) → ∀ ls : Array Slot, lv_has ls 13 [(0, .ref (a 34)), (1, .int w), (2, .int (nI (σ 0))), (3, .int (nI a0)), (4, .int (nI j0 - nI 1)), (5, .int (nI lo)), (6, .int (nI (ones (seenQ σ a0 (nI j0 - nI 1) lo 99)))), (7, .int (cAns σ a0 (seenQ σ a0 (nI j0 - nI 1) lo 99))), (8, .int (nI (sumP σ 3 k))), (9, .int (nI (sumP σ 4 k))), (10, .int (nI (pairS σ k))), (11, .int (nI k))] → W p l e rm_L_holds s m args below meth c H locs cells slots (vx_MQ below (va_Qi (S := Unit) (fun r _ => r = nI 1) (fun _ _ => True) (fun _ => False)) (xX s.heap.size (fun E => False)) args s 400 2400 (fun q => s.heap.size ≤ q)) (F0 m 239 ls []) := by
    intro fuel
    induction fuel with
    | zero => intro k cells slots hk hfk hc hs; exact absurd hfk (by omega)
    | succ fuel ih_239 =>
      intro k cells slots hk hfk hc hs H locs hP hS hk2 ls hl
      refine lv_iload hx hb dL_holds_239 (lv_at hl 11 rfl) ?_
      refine lv_iconst (v := nI 5) hx hb dL_holds_241 (by decide) ?_
      refine lv_icmp_ge (tgt := 351) hx hb dL_holds_242 (by decide) (fun c_242 => ?_) (fun c_242 => ?_)
      · have n_242 := (nI_leI (a := 5) (b := k) (by omega) (by omega)).mp c_242
        obtain rfl : k = 5 := by omega
        refine lv_aload_n hx hb dL_holds_351 rfl (lv_at hl 0 rfl) ?_
        refine lv_iconst (v := nI 0) hx hb dL_holds_352 (by decide) ?_
        refine lkV (As := [.int (nI 0)]) (rest := []) (v := (nI (hidQ σ 0))) (m_X8_hides l Γ _ hfl a b rf f z F Z σ hX.1 hX.2.1 (nI 0)) (fun E => exc0 (hi0 (w := 0) (by decide))) (fun r h => vl_hid (σ := σ) (w := 0) (by decide) h) hE S k_X8_hides gL_holds_X8_hides rfl ⟨(Nat.le_of_ble_eq_true rfl), (Nat.le_of_ble_eq_true rfl)⟩ hK hP hS hA 0 (ci := 8) rfl rfl rfl rfl hl.1 (Nat.le_of_ble_eq_true rfl) rfl dL_holds_353 ⟨by show _ ≤ 400; omega, by show _ ≤ 2400; omega⟩ (fun H locs hP hS1 hk9 => ?_)
        have hk2 := cE_keep hk9 hS.1 hk2
        have hS := hS1
        refine lv_aload_n hx hb dL_holds_356 rfl (lv_at hl 0 rfl) ?_
        refine lv_iconst (v := nI 1) hx hb dL_holds_357 (by decide) ?_
        refine lkV (As := [.int (nI 1)]) (rest := [.int (nI (hidQ σ 0))]) (v := (nI (hidQ σ 1))) (m_X8_hides l Γ _ hfl a b rf f z F Z σ hX.1 hX.2.1 (nI 1)) (fun E => exc0 (hi0 (w := 1) (by decide))) (fun r h => vl_hid (σ := σ) (w := 1) (by decide) h) hE S k_X8_hides gL_holds_X8_hides rfl ⟨(Nat.le_of_ble_eq_true rfl), (Nat.le_of_ble_eq_true rfl)⟩ hK hP hS hA 0 (ci := 8) rfl rfl rfl rfl hl.1 (Nat.le_of_ble_eq_true rfl) rfl dL_holds_358 ⟨by show _ ≤ 400; omega, by show _ ≤ 2400; omega⟩ (fun H locs hP hS1 hk9 => ?_)
        have hk2 := cE_keep hk9 hS.1 hk2
        have hS := hS1
        refine lv_iadd hx hb dL_holds_361 ?_
        refine asi (z := nI ((hidQ σ 0) + (hidQ σ 1))) (nI_add _ _) ?_
        refine lv_aload_n hx hb dL_holds_362 rfl (lv_at hl 0 rfl) ?_
        refine lv_iconst (v := nI 2) hx hb dL_holds_363 (by decide) ?_
        refine lkV (As := [.int (nI 2)]) (rest := [.int (nI ((hidQ σ 0) + (hidQ σ 1)))]) (v := (nI (hidQ σ 2))) (m_X8_hides l Γ _ hfl a b rf f z F Z σ hX.1 hX.2.1 (nI 2)) (fun E => exc0 (hi0 (w := 2) (by decide))) (fun r h => vl_hid (σ := σ) (w := 2) (by decide) h) hE S k_X8_hides gL_holds_X8_hides rfl ⟨(Nat.le_of_ble_eq_true rfl), (Nat.le_of_ble_eq_true rfl)⟩ hK hP hS hA 0 (ci := 8) rfl rfl rfl rfl hl.1 (Nat.le_of_ble_eq_true rfl) rfl dL_holds_364 ⟨by show _ ≤ 400; omega, by show _ ≤ 2400; omega⟩ (fun H locs hP hS1 hk9 => ?_)
        have hk2 := cE_keep hk9 hS.1 hk2
        have hS := hS1
        refine lv_iadd hx hb dL_holds_367 ?_
        refine asi (z := nI (((hidQ σ 0) + (hidQ σ 1)) + (hidQ σ 2))) (nI_add _ _) ?_
        refine lv_aload_n hx hb dL_holds_368 rfl (lv_at hl 0 rfl) ?_
        refine lv_iconst (v := nI 3) hx hb dL_holds_369 (by decide) ?_
        refine lkV (As := [.int (nI 3)]) (rest := [.int (nI (((hidQ σ 0) + (hidQ σ 1)) + (hidQ σ 2)))]) (v := (nI (hidQ σ 3))) (m_X8_hides l Γ _ hfl a b rf f z F Z σ hX.1 hX.2.1 (nI 3)) (fun E => exc0 (hi0 (w := 3) (by decide))) (fun r h => vl_hid (σ := σ) (w := 3) (by decide) h) hE S k_X8_hides gL_holds_X8_hides rfl ⟨(Nat.le_of_ble_eq_true rfl), (Nat.le_of_ble_eq_true rfl)⟩ hK hP hS hA 0 (ci := 8) rfl rfl rfl rfl hl.1 (Nat.le_of_ble_eq_true rfl) rfl dL_holds_370 ⟨by show _ ≤ 400; omega, by show _ ≤ 2400; omega⟩ (fun H locs hP hS1 hk9 => ?_)
        have hk2 := cE_keep hk9 hS.1 hk2
        have hS := hS1
        refine lv_iadd hx hb dL_holds_373 ?_
        refine asi (z := nI ((((hidQ σ 0) + (hidQ σ 1)) + (hidQ σ 2)) + (hidQ σ 3))) (nI_add _ _) ?_
        refine lv_istore (lv' := [(11, .int (nI ((((hidQ σ 0) + (hidQ σ 1)) + (hidQ σ 2)) + (hidQ σ 3)))), (0, .ref (a 34)), (1, .int w), (2, .int (nI (σ 0))), (3, .int (nI a0)), (4, .int (nI j0 - nI 1)), (5, .int (nI lo)), (6, .int (nI (ones (seenQ σ a0 (nI j0 - nI 1) lo 99)))), (7, .int (cAns σ a0 (seenQ σ a0 (nI j0 - nI 1) lo 99))), (8, .int (nI (sumP σ 3 5))), (9, .int (nI (sumP σ 4 5))), (10, .int (nI (pairS σ 5)))]) hx hb dL_holds_374 hl (by decide) rfl (fun ls hl => ?_)
        refine lv_iload hx hb dL_holds_376 (lv_at hl 8 rfl) ?_
        refine lv_iconst (v := (-1)) hx hb dL_holds_378 (by decide) ?_
        refine lv_icmp_eq (tgt := 398) hx hb dL_holds_379 (by decide) (fun c_379 => ?_) (fun c_379 => ?_)
        · exact L_398  _ _ (by omega) (by omega) _ _ hP hS hk2 ls (lv_sub hl [1, 2, 3, 4, 5, 6, 7, 9, 10, 11, 0] rfl)
        · refine lv_iload hx hb dL_holds_382 (lv_at hl 8 rfl) ?_
          refine lv_iload hx hb dL_holds_384 (lv_at hl 7 rfl) ?_
          refine lv_iload hx hb dL_holds_386 (lv_at hl 7 rfl) ?_
          refine lv_aload_n hx hb dL_holds_388 rfl (lv_at hl 1 rfl) ?_
          refine lv_iconst (v := nI 3) hx hb dL_holds_389 (by decide) ?_
          refine lkV (As := [.int (nI 3)]) (rest := [.int (nI (ones (seenQ σ a0 (nI j0 - nI 1) lo 99))), .int (nI (ones (seenQ σ a0 (nI j0 - nI 1) lo 99))), .int (cAns σ a0 (seenQ σ a0 (nI j0 - nI 1) lo 99))]) (v := (nI (σ 3))) (m_X8_count l Γ _ hfl a b rf f z F Z σ hX.1 hX.2.1 (nI 3)) (fun E => exc0 (co0 (w := 3) (by decide))) (fun r h => vl_cnt (σ := σ) (z := z) (w := 3) (by decide) h) hE S k_X8_count gL_holds_X8_count rfl ⟨(Nat.le_of_ble_eq_true rfl), (Nat.le_of_ble_eq_true rfl)⟩ hK hP hS hA 0 (ci := 8) rfl rfl rfl rfl hl.1 (Nat.le_of_ble_eq_true rfl) rfl dL_holds_390 ⟨by show _ ≤ 400; omega, by show _ ≤ 2400; omega⟩ (fun H locs hP hS1 hk9 => ?_)
          have hk2 := cE_keep hk9 hS.1 hk2
          have hS := hS1
          refine lv_irem hx hb dL_holds_393 (nI_ne0 (by have := hI.coarse; omega) (by have := hI.coarse; omega)) ?_
          refine asi (z := nI (ones (seenQ σ a0 (nI j0 - nI 1) lo 99) % σ 3)) (pk_rem (by omega) (by have := hI.coarse; omega) (by have := hI.coarse; omega)) ?_
          refine lv_isub hx hb dL_holds_394 ?_
          refine asi (z := nI (ones (seenQ σ a0 (nI j0 - nI 1) lo 99) - ones (seenQ σ a0 (nI j0 - nI 1) lo 99) % σ 3)) (pk_sub (Nat.mod_le _ _)) ?_
          refine lv_icmp_ne (tgt := 402) hx hb dL_holds_395 (by decide) (fun c_395 => ?_) (fun c_395 => ?_)
          · exact absurd (told_v c_379) c_395
          · exact L_398  _ _ (by omega) (by omega) _ _ hP hS hk2 ls (lv_sub hl [1, 2, 3, 4, 5, 6, 7, 9, 10, 11, 0] rfl)
      · have n_242 := (not_congr (nI_leI (a := 5) (b := k) (by omega) (by omega))).mp c_242
        have hk5 : k < 5 := by omega
        have hok := hI.kept hk5
        have hg3 := hG.1 k hk5
        refine lv_iload hx hb dL_holds_245 (lv_at hl 8 rfl) ?_
        refine lv_aload_n hx hb dL_holds_247 rfl (lv_at hl 0 rfl) ?_
        refine lv_iload hx hb dL_holds_248 (lv_at hl 11 rfl) ?_
        refine lv_bipush (v := nI 6) hx hb dL_holds_250 (by decide) ?_
        refine lkV (As := [.int (nI k), .int (nI 6)]) (rest := [.int (nI (sumP σ 3 k))]) (v := (nI (oP σ k 3))) (m_X8_personOf l Γ _ hfl a b rf f z F Z σ hX.1 hX.2.1 (nI k) (nI 6)) (fun E => exc0 (pe0 (k := k) (w := 6) (by omega) (by omega))) (fun r h => vl_per (σ := σ) (k := k) (w := 6) (by omega) (by omega) h) hE S k_X8_personOf gL_holds_X8_personOf rfl ⟨(Nat.le_of_ble_eq_true rfl), (Nat.le_of_ble_eq_true rfl)⟩ hK hP hS hA 0 (ci := 8) rfl rfl rfl rfl hl.1 (Nat.le_of_ble_eq_true rfl) rfl dL_holds_252 ⟨by show _ ≤ 400; omega, by show _ ≤ 2400; omega⟩ (fun H locs hP hS1 hk9 => ?_)
        have hk2 := cE_keep hk9 hS.1 hk2
        have hS := hS1
        refine lv_iadd hx hb dL_holds_255 ?_
        refine asi (z := nI (sumP σ 3 (k + 1))) (nI_add _ _) ?_
        refine lv_istore (lv' := [(8, .int (nI (sumP σ 3 (k + 1)))), (0, .ref (a 34)), (1, .int w), (2, .int (nI (σ 0))), (3, .int (nI a0)), (4, .int (nI j0 - nI 1)), (5, .int (nI lo)), (6, .int (nI (ones (seenQ σ a0 (nI j0 - nI 1) lo 99)))), (7, .int (cAns σ a0 (seenQ σ a0 (nI j0 - nI 1) lo 99))), (9, .int (nI (sumP σ 4 k))), (10, .int (nI (pairS σ k))), (11, .int (nI k))]) hx hb dL_holds_256 hl (by decide) rfl (fun ls hl => ?_)
        refine lv_iload hx hb dL_holds_258 (lv_at hl 9 rfl) ?_
        refine lv_aload_n hx hb dL_holds_260 rfl (lv_at hl 1 rfl) ?_
        refine lv_iload hx hb dL_holds_261 (lv_at hl 11 rfl) ?_
        refine lv_bipush (v := nI 7) hx hb dL_holds_263 (by decide) ?_
        refine lkV (As := [.int (nI k), .int (nI 7)]) (rest := [.int (nI (sumP σ 4 k))]) (v := (nI (oP σ k 4))) (m_X8_personOf l Γ _ hfl a b rf f z F Z σ hX.1 hX.2.1 (nI k) (nI 7)) (fun E => exc0 (pe0 (k := k) (w := 7) (by omega) (by omega))) (fun r h => vl_per (σ := σ) (k := k) (w := 7) (by omega) (by omega) h) hE S k_X8_personOf gL_holds_X8_personOf rfl ⟨(Nat.le_of_ble_eq_true rfl), (Nat.le_of_ble_eq_true rfl)⟩ hK hP hS hA 0 (ci := 8) rfl rfl rfl rfl hl.1 (Nat.le_of_ble_eq_true rfl) rfl dL_holds_265 ⟨by show _ ≤ 400; omega, by show _ ≤ 2400; omega⟩ (fun H locs hP hS1 hk9 => ?_)
        have hk2 := cE_keep hk9 hS.1 hk2
        have hS := hS1
        refine lv_iadd hx hb dL_holds_268 ?_
        refine asi (z := nI (sumP σ 4 (k + 1))) (nI_add _ _) ?_
        refine lv_istore (lv' := [(9, .int (nI (sumP σ 4 (k + 1)))), (8, .int (nI (sumP σ 3 (k + 1)))), (0, .ref (a 34)), (1, .int w), (2, .int (nI (σ 0))), (3, .int (nI a0)), (4, .int (nI j0 - nI 1)), (5, .int (nI lo)), (6, .int (nI (ones (seenQ σ a0 (nI j0 - nI 1) lo 99)))), (7, .int (cAns σ a0 (seenQ σ a0 (nI j0 - nI 1) lo 99))), (10, .int (nI (pairS σ k))), (11, .int (nI k))]) hx hb dL_holds_269 hl (by decide) rfl (fun ls hl => ?_)
        refine lv_iload hx hb dL_holds_271 (lv_at hl 10 rfl) ?_
        refine lv_aload_n hx hb dL_holds_273 rfl (lv_at hl 2 rfl) ?_
        refine lv_iload hx hb dL_holds_274 (lv_at hl 11 rfl) ?_
        refine lv_iconst (v := nI 3) hx hb dL_holds_276 (by decide) ?_
        refine lkV (As := [.int (nI k), .int (nI 3)]) (rest := [.int (nI (pairS σ k))]) (v := (nI (ones (sAll σ k)))) (m_X8_personOf l Γ _ hfl a b rf f z F Z σ hX.1 hX.2.1 (nI k) (nI 3)) (fun E => exc0 (pe0 (k := k) (w := 3) (by omega) (by omega))) (fun r h => vl_per (σ := σ) (k := k) (w := 3) (by omega) (by omega) h) hE S k_X8_personOf gL_holds_X8_personOf rfl ⟨(Nat.le_of_ble_eq_true rfl), (Nat.le_of_ble_eq_true rfl)⟩ hK hP hS hA 0 (ci := 8) rfl rfl rfl rfl hl.1 (Nat.le_of_ble_eq_true rfl) rfl dL_holds_277 ⟨by show _ ≤ 400; omega, by show _ ≤ 2400; omega⟩ (fun H locs hP hS1 hk9 => ?_)
        have hk2 := cE_keep hk9 hS.1 hk2
        have hS := hS1
        refine lv_iadd hx hb dL_holds_280 ?_
        refine asi (z := nI (pairS σ (k + 1))) (nI_add _ _) ?_
        refine lv_istore (lv' := [(10, .int (nI (pairS σ (k + 1)))), (9, .int (nI (sumP σ 4 (k + 1)))), (8, .int (nI (sumP σ 3 (k + 1)))), (0, .ref (a 34)), (1, .int w), (2, .int (nI (σ 0))), (3, .int (nI a0)), (4, .int (nI j0 - nI 1)), (5, .int (nI lo)), (6, .int (nI (ones (seenQ σ a0 (nI j0 - nI 1) lo 99)))), (7, .int (cAns σ a0 (seenQ σ a0 (nI j0 - nI 1) lo 99))), (11, .int (nI k))]) hx hb dL_holds_281 hl (by decide) rfl (fun ls hl => ?_)
        refine lv_aload_n hx hb dL_holds_283 rfl (lv_at hl 3 rfl) ?_
        refine lv_iload hx hb dL_holds_284 (lv_at hl 11 rfl) ?_
        refine lv_iconst (v := nI 5) hx hb dL_holds_286 (by decide) ?_
        refine lkV (As := [.int (nI k), .int (nI 5)]) (rest := []) (v := (nI (oK σ k))) (m_X8_personOf l Γ _ hfl a b rf f z F Z σ hX.1 hX.2.1 (nI k) (nI 5)) (fun E => exc0 (pe0 (k := k) (w := 5) (by omega) (by omega))) (fun r h => vl_per (σ := σ) (k := k) (w := 5) (by omega) (by omega) h) hE S k_X8_personOf gL_holds_X8_personOf rfl ⟨(Nat.le_of_ble_eq_true rfl), (Nat.le_of_ble_eq_true rfl)⟩ hK hP hS hA 0 (ci := 8) rfl rfl rfl rfl hl.1 (Nat.le_of_ble_eq_true rfl) rfl dL_holds_287 ⟨by show _ ≤ 400; omega, by show _ ≤ 2400; omega⟩ (fun H locs hP hS1 hk9 => ?_)
        have hk2 := cE_keep hk9 hS.1 hk2
        have hS := hS1
        refine lv_istore (lv' := [(12, .int (nI (oK σ k))), (10, .int (nI (pairS σ (k + 1)))), (9, .int (nI (sumP σ 4 (k + 1)))), (8, .int (nI (sumP σ 3 (k + 1)))), (0, .ref (a 34)), (1, .int w), (2, .int (nI (σ 0))), (3, .int (nI a0)), (4, .int (nI j0 - nI 1)), (5, .int (nI lo)), (6, .int (nI (ones (seenQ σ a0 (nI j0 - nI 1) lo 99)))), (7, .int (cAns σ a0 (seenQ σ a0 (nI j0 - nI 1) lo 99))), (11, .int (nI k))]) hx hb dL_holds_290 hl (by decide) rfl (fun ls hl => ?_)
        refine lv_iload hx hb dL_holds_292 (lv_at hl 0 rfl) ?_
        refine lv_bipush (v := nI 6) hx hb dL_holds_294 (by decide) ?_
        refine lv_icmp_gt (tgt := 343) hx hb dL_holds_296 (by decide) (fun c_296 => ?_) (fun c_296 => ?_)
        · have n_296 := (nI_ltI (a := 6) (b := (oK σ k)) (by omega) (by omega)).mp c_296
          exact absurd n_296 (by omega)
        · have n_296 := (not_congr (nI_ltI (a := 6) (b := (oK σ k)) (by omega) (by omega))).mp c_296
          refine lv_iload hx hb dL_holds_299 (lv_at hl 0 rfl) ?_
          refine lv_if_le (tgt := 318) hx hb dL_holds_301 (by decide) (fun c_301 => ?_) (fun c_301 => ?_)
          · have n_301 := (nI_leI (a := (oK σ k)) (b := 0) (by omega) (by omega)).mp c_301
            refine lv_aload_n hx hb dL_holds_318 rfl (lv_at hl 4 rfl) ?_
            refine lv_iload hx hb dL_holds_319 (lv_at hl 12 rfl) ?_
            refine lv_iload hx hb dL_holds_321 (lv_at hl 0 rfl) ?_
            refine lkV (As := [.int (nI k), .int (nI (oK σ k))]) (rest := []) (v := (remV σ k (oK σ k))) (m_X8_remembered l Γ _ hfl a b rf f z F Z σ hX.1 hX.2.1 (nI k) (nI (oK σ k))) (fun E => exc0 (re0 (k := k) (w := (oK σ k)) (by omega) (by omega))) (fun r h => vl_rem (σ := σ) (k := k) (w := (oK σ k)) (by omega) (by omega) h) hE S k_X8_remembered gL_holds_X8_remembered rfl ⟨(Nat.le_of_ble_eq_true rfl), (Nat.le_of_ble_eq_true rfl)⟩ hK hP hS hA 0 (ci := 8) rfl rfl rfl rfl hl.1 (Nat.le_of_ble_eq_true rfl) rfl dL_holds_323 ⟨by show _ ≤ 400; omega, by show _ ≤ 2400; omega⟩ (fun H locs hP hS1 hk9 => ?_)
            have hk2 := cE_keep hk9 hS.1 hk2
            have hS := hS1
            refine lv_iconst (v := (-1)) hx hb dL_holds_326 (by decide) ?_
            refine lv_icmp_ne (tgt := 343) hx hb dL_holds_327 (by decide) (fun c_327 => ?_) (fun c_327 => ?_)
            · exact absurd rem_n c_327
            · refine lv_aload_n hx hb dL_holds_330 rfl (lv_at hl 4 rfl) ?_
              refine lv_iload hx hb dL_holds_331 (lv_at hl 12 rfl) ?_
              refine lv_iconst (v := nI 0) hx hb dL_holds_333 (by decide) ?_
              refine lkV (As := [.int (nI k), .int (nI 0)]) (rest := []) (v := (remV σ k 0)) (m_X8_remembered l Γ _ hfl a b rf f z F Z σ hX.1 hX.2.1 (nI k) (nI 0)) (fun E => exc0 (re0 (k := k) (w := 0) (by omega) (by omega))) (fun r h => vl_rem (σ := σ) (k := k) (w := 0) (by omega) (by omega) h) hE S k_X8_remembered gL_holds_X8_remembered rfl ⟨(Nat.le_of_ble_eq_true rfl), (Nat.le_of_ble_eq_true rfl)⟩ hK hP hS hA 0 (ci := 8) rfl rfl rfl rfl hl.1 (Nat.le_of_ble_eq_true rfl) rfl dL_holds_334 ⟨by show _ ≤ 400; omega, by show _ ≤ 2400; omega⟩ (fun H locs hP hS1 hk9 => ?_)
              have hk2 := cE_keep hk9 hS.1 hk2
              have hS := hS1
              refine lv_iconst (v := nI 1) hx hb dL_holds_337 (by decide) ?_
              refine lv_iload_n hx hb dL_holds_338 rfl (lv_at hl 6 rfl) ?_
              refine lv_ishl hx hb dL_holds_339 ?_
              refine asi (z := nI (2 ^ σ 0)) (sh_1 hI) ?_
              refine lv_icmp_lt (tgt := 345) hx hb dL_holds_340 (by decide) (fun c_340 => ?_) (fun c_340 => ?_)
              · refine lv_iinc (v := nI (k + 1)) (lv' := [(11, .int (nI (k + 1))), (12, .int (nI (oK σ k))), (10, .int (nI (pairS σ (k + 1)))), (9, .int (nI (sumP σ 4 (k + 1)))), (8, .int (nI (sumP σ 3 (k + 1)))), (0, .ref (a 34)), (1, .int w), (2, .int (nI (σ 0))), (3, .int (nI a0)), (4, .int (nI j0 - nI 1)), (5, .int (nI lo)), (6, .int (nI (ones (seenQ σ a0 (nI j0 - nI 1) lo 99)))), (7, .int (cAns σ a0 (seenQ σ a0 (nI j0 - nI 1) lo 99)))]) hx hb dL_holds_345 hl (k := 12) rfl (nI_add _ _) (by decide) rfl (fun ls hl => ?_)
                refine lv_goto (tgt := 239) hx hb dL_holds_348 (by decide) ?_
                exact ih_239 (k + 1) _ _ (by omega) (by omega) (by omega) (by omega) _ _ hP hS hk2 ls (lv_sub hl [5, 6, 7, 8, 9, 10, 11, 12, 4, 3, 2, 0] rfl)
              · exact absurd (rem_b hI hG hk5) c_340
          · have n_301 := (not_congr (nI_leI (a := (oK σ k)) (b := 0) (by omega) (by omega))).mp c_301
            refine lv_aload_n hx hb dL_holds_304 rfl (lv_at hl 4 rfl) ?_
            refine lv_iload hx hb dL_holds_305 (lv_at hl 12 rfl) ?_
            refine lv_iload hx hb dL_holds_307 (lv_at hl 0 rfl) ?_
            refine lv_iconst (v := nI 1) hx hb dL_holds_309 (by decide) ?_
            refine lv_isub hx hb dL_holds_310 ?_
            refine asi (z := nI (oK σ k - 1)) (pk_sub (by omega)) ?_
            refine lkV (As := [.int (nI k), .int (nI (oK σ k - 1))]) (rest := []) (v := (remV σ k (oK σ k - 1))) (m_X8_remembered l Γ _ hfl a b rf f z F Z σ hX.1 hX.2.1 (nI k) (nI (oK σ k - 1))) (fun E => exc0 (re0 (k := k) (w := (oK σ k - 1)) (by omega) (by omega))) (fun r h => vl_rem (σ := σ) (k := k) (w := (oK σ k - 1)) (by omega) (by omega) h) hE S k_X8_remembered gL_holds_X8_remembered rfl ⟨(Nat.le_of_ble_eq_true rfl), (Nat.le_of_ble_eq_true rfl)⟩ hK hP hS hA 0 (ci := 8) rfl rfl rfl rfl hl.1 (Nat.le_of_ble_eq_true rfl) rfl dL_holds_311 ⟨by show _ ≤ 400; omega, by show _ ≤ 2400; omega⟩ (fun H locs hP hS1 hk9 => ?_)
            have hk2 := cE_keep hk9 hS.1 hk2
            have hS := hS1
            refine lv_iconst (v := (-1)) hx hb dL_holds_314 (by decide) ?_
            refine lv_icmp_eq (tgt := 343) hx hb dL_holds_315 (by decide) (fun c_315 => ?_) (fun c_315 => ?_)
            · exact absurd c_315 (rem_l hI hk5 n_301)
            · refine lv_aload_n hx hb dL_holds_318 rfl (lv_at hl 4 rfl) ?_
              refine lv_iload hx hb dL_holds_319 (lv_at hl 12 rfl) ?_
              refine lv_iload hx hb dL_holds_321 (lv_at hl 0 rfl) ?_
              refine lkV (As := [.int (nI k), .int (nI (oK σ k))]) (rest := []) (v := (remV σ k (oK σ k))) (m_X8_remembered l Γ _ hfl a b rf f z F Z σ hX.1 hX.2.1 (nI k) (nI (oK σ k))) (fun E => exc0 (re0 (k := k) (w := (oK σ k)) (by omega) (by omega))) (fun r h => vl_rem (σ := σ) (k := k) (w := (oK σ k)) (by omega) (by omega) h) hE S k_X8_remembered gL_holds_X8_remembered rfl ⟨(Nat.le_of_ble_eq_true rfl), (Nat.le_of_ble_eq_true rfl)⟩ hK hP hS hA 0 (ci := 8) rfl rfl rfl rfl hl.1 (Nat.le_of_ble_eq_true rfl) rfl dL_holds_323 ⟨by show _ ≤ 400; omega, by show _ ≤ 2400; omega⟩ (fun H locs hP hS1 hk9 => ?_)
              have hk2 := cE_keep hk9 hS.1 hk2
              have hS := hS1
              refine lv_iconst (v := (-1)) hx hb dL_holds_326 (by decide) ?_
              refine lv_icmp_ne (tgt := 343) hx hb dL_holds_327 (by decide) (fun c_327 => ?_) (fun c_327 => ?_)
              · exact absurd rem_n c_327
              · refine lv_aload_n hx hb dL_holds_330 rfl (lv_at hl 4 rfl) ?_
                refine lv_iload hx hb dL_holds_331 (lv_at hl 12 rfl) ?_
                refine lv_iconst (v := nI 0) hx hb dL_holds_333 (by decide) ?_
                refine lkV (As := [.int (nI k), .int (nI 0)]) (rest := []) (v := (remV σ k 0)) (m_X8_remembered l Γ _ hfl a b rf f z F Z σ hX.1 hX.2.1 (nI k) (nI 0)) (fun E => exc0 (re0 (k := k) (w := 0) (by omega) (by omega))) (fun r h => vl_rem (σ := σ) (k := k) (w := 0) (by omega) (by omega) h) hE S k_X8_remembered gL_holds_X8_remembered rfl ⟨(Nat.le_of_ble_eq_true rfl), (Nat.le_of_ble_eq_true rfl)⟩ hK hP hS hA 0 (ci := 8) rfl rfl rfl rfl hl.1 (Nat.le_of_ble_eq_true rfl) rfl dL_holds_334 ⟨by show _ ≤ 400; omega, by show _ ≤ 2400; omega⟩ (fun H locs hP hS1 hk9 => ?_)
                have hk2 := cE_keep hk9 hS.1 hk2
                have hS := hS1
                refine lv_iconst (v := nI 1) hx hb dL_holds_337 (by decide) ?_
                refine lv_iload_n hx hb dL_holds_338 rfl (lv_at hl 6 rfl) ?_
                refine lv_ishl hx hb dL_holds_339 ?_
                refine asi (z := nI (2 ^ σ 0)) (sh_1 hI) ?_
                refine lv_icmp_lt (tgt := 345) hx hb dL_holds_340 (by decide) (fun c_340 => ?_) (fun c_340 => ?_)
                · refine lv_iinc (v := nI (k + 1)) (lv' := [(11, .int (nI (k + 1))), (12, .int (nI (oK σ k))), (10, .int (nI (pairS σ (k + 1)))), (9, .int (nI (sumP σ 4 (k + 1)))), (8, .int (nI (sumP σ 3 (k + 1)))), (0, .ref (a 34)), (1, .int w), (2, .int (nI (σ 0))), (3, .int (nI a0)), (4, .int (nI j0 - nI 1)), (5, .int (nI lo)), (6, .int (nI (ones (seenQ σ a0 (nI j0 - nI 1) lo 99)))), (7, .int (cAns σ a0 (seenQ σ a0 (nI j0 - nI 1) lo 99)))]) hx hb dL_holds_345 hl (k := 12) rfl (nI_add _ _) (by decide) rfl (fun ls hl => ?_)
                  refine lv_goto (tgt := 239) hx hb dL_holds_348 (by decide) ?_
                  exact ih_239 (k + 1) _ _ (by omega) (by omega) (by omega) (by omega) _ _ hP hS hk2 ls (lv_sub hl [5, 6, 7, 8, 9, 10, 11, 12, 4, 3, 2, 0] rfl)
                · exact absurd (rem_b hI hG hk5) c_340
  have L_40 : ∀ (fuel : Nat), ∀ (k : Nat) (cells slots : Nat) (hk : k ≤ σ 0) (hfk : σ 0 - k < fuel) (hc : cells + (16 * (σ 0 - k) + 120) ≤ 380) (hs : slots + 6 * (16 * (σ 0 - k) + 120) ≤ 2280), ∀ (H : Heap) (locs : List Loc), gP Γ (wXo Γ a b rf f z F Z) H → va_S (fun q => s.heap.size ≤ q) s.heap H locs → (∀ q : Nat, q < s.heap.size → H[q]? = s.heap[q]?) → ∀ ls : Array Slot, lv_has ls 13 [(0, .ref (a 34)), (1, .int w), (2, .int (nI (σ 0))), (3, .int (nI a0)), (4, .int (nI j0 - nI 1)), (5, .int (nI lo)), (6, .int (nI (cnt (skP σ a0 (nI j0 - nI 1) lo 99) k))), (7, .int (nI k))] → W p l e rm_L_holds s m args below meth c H locs cells slots (vx_MQ below (va_Qi (S := Unit) (fun r _ => r = nI 1) (fun _ _ => True) (fun _ => False)) (xX s.heap.size (fun E => False)) args s 400 2400 (fun q => s.heap.size ≤ q)) (F0 m 40 ls []) := by
    intro fuel
    induction fuel with
    | zero => intro k cells slots hk hfk hc hs; exact absurd hfk (by omega)
    | succ fuel ih_40 =>
      intro k cells slots hk hfk hc hs H locs hP hS hk2 ls hl
      have L_118 : ∀  (cells slots : Nat) (hk0 : k < σ 0) (hc : cells + (8 + 16 * (σ 0 - (k + 1)) + 120) ≤ 380) (hs : slots + 6 * (8 + 16 * (σ 0 - (k + 1)) + 120) ≤ 2280), ∀ (H : Heap) (locs : List Loc), gP Γ (wXo Γ a b rf f z F Z) H → va_S (fun q => s.heap.size ≤ q) s.heap H locs → (∀ q : Nat, q < s.heap.size → H[q]? = s.heap[q]?) → ∀ ls : Array Slot, lv_has ls 13 [(0, .ref (a 34)), (1, .int w), (2, .int (nI (σ 0))), (3, .int (nI a0)), (4, .int (nI j0 - nI 1)), (5, .int (nI lo)), (7, .int (nI k)), (8, .int (bI (decide (vmk σ a0 k = 0)))), (9, .int (nI (vmk σ a0 k)))] → W p l e rm_L_holds s m args below meth c H locs cells slots (vx_MQ below (va_Qi (S := Unit) (fun r _ => r = nI 1) (fun _ _ => True) (fun _ => False)) (xX s.heap.size (fun E => False)) args s 400 2400 (fun q => s.heap.size ≤ q)) (F0 m 118 ls [.int (bI (skP σ a0 (nI j0 - nI 1) lo 99 k)), .int (nI (cnt (skP σ a0 (nI j0 - nI 1) lo 99) k))]) := by
        intro cells slots hk0 hc hs H locs hP hS hk2 ls hl
        have hr := hI.row hk0
        have hv16 := vmk_lt σ a0 k
        refine lv_iadd hx hb dL_holds_118 ?_
        refine asi (z := nI (cnt (skP σ a0 (nI j0 - nI 1) lo 99) (k + 1))) (sk_add _ _) ?_
        refine lv_istore (lv' := [(6, .int (nI (cnt (skP σ a0 (nI j0 - nI 1) lo 99) (k + 1)))), (0, .ref (a 34)), (1, .int w), (2, .int (nI (σ 0))), (3, .int (nI a0)), (4, .int (nI j0 - nI 1)), (5, .int (nI lo)), (7, .int (nI k)), (8, .int (bI (decide (vmk σ a0 k = 0)))), (9, .int (nI (vmk σ a0 k)))]) hx hb dL_holds_119 hl (by decide) rfl (fun ls hl => ?_)
        refine lv_aload_n hx hb dL_holds_121 rfl (lv_at hl 1 rfl) ?_
        refine lv_iload hx hb dL_holds_122 (lv_at hl 7 rfl) ?_
        refine lv_iconst (v := nI 0) hx hb dL_holds_124 (by decide) ?_
        refine lkV (As := [.int (nI k), .int (nI 0)]) (rest := []) (v := (nI (oR σ k 0))) (m_X8_rowOf l Γ _ hfl a b rf f z F Z σ hX.1 hX.2.1 (nI k) (nI 0)) (fun E => exc0 (rw0 (k := k) (w := 0) (by omega) hX.2.1.n (by omega))) (fun r h => vl_row (σ := σ) (k := k) (w := 0) (by have := hX.2.1.n; omega) (by omega) h) hE S k_X8_rowOf gL_holds_X8_rowOf rfl ⟨(Nat.le_of_ble_eq_true rfl), (Nat.le_of_ble_eq_true rfl)⟩ hK hP hS hA 0 (ci := 8) rfl rfl rfl rfl hl.1 (Nat.le_of_ble_eq_true rfl) rfl dL_holds_125 ⟨by show _ ≤ 400; omega, by show _ ≤ 2400; omega⟩ (fun H locs hP hS1 hk9 => ?_)
        have hk2 := cE_keep hk9 hS.1 hk2
        have hS := hS1
        refine lv_iload_n hx hb dL_holds_128 rfl (lv_at hl 4 rfl) ?_
        refine bJne (P := (decide (oR σ k 0 = a0))) (pc1 := 0) (pc2 := 0) (pc3 := 136) (pc4 := 137) hx hb dL_holds_129 (by decide) dL_holds_132 dL_holds_133 (by decide) dL_holds_136 rfl (is_o (by omega) (by omega)) ?_
        refine lv_istore (lv' := [(10, .int (bI (decide (oR σ k 0 = a0)))), (6, .int (nI (cnt (skP σ a0 (nI j0 - nI 1) lo 99) (k + 1)))), (0, .ref (a 34)), (1, .int w), (2, .int (nI (σ 0))), (3, .int (nI a0)), (4, .int (nI j0 - nI 1)), (5, .int (nI lo)), (7, .int (nI k)), (8, .int (bI (decide (vmk σ a0 k = 0)))), (9, .int (nI (vmk σ a0 k)))]) hx hb dL_holds_137 hl (by decide) rfl (fun ls hl => ?_)
        refine lv_iload hx hb dL_holds_139 (lv_at hl 9 rfl) ?_
        refine lv_iload hx hb dL_holds_141 (lv_at hl 10 rfl) ?_
        refine bJnz (P := (decide (vmk σ a0 k = 0))) (pc3 := 150) (pc4 := 151) hx hb dL_holds_143 (by decide) dL_holds_146 dL_holds_147 (by decide) dL_holds_150 rfl (is_o (y := 0) (by omega) (by decide)) ?_
        refine lv_icmp_ne (tgt := 205) hx hb dL_holds_151 (by decide) (fun c_151 => ?_) (fun c_151 => ?_)
        · exact absurd rfl c_151
        · refine lv_iload hx hb dL_holds_154 (lv_at hl 9 rfl) ?_
          refine lv_aload_n hx hb dL_holds_156 rfl (lv_at hl 2 rfl) ?_
          refine lv_iload hx hb dL_holds_157 (lv_at hl 8 rfl) ?_
          refine lv_iconst (v := nI 4) hx hb dL_holds_159 (by decide) ?_
          refine lkV (As := [.int (nI k), .int (nI 4)]) (rest := [.int (bI (decide (vmk σ a0 k = 0)))]) (v := (nI (seers σ k))) (m_X8_rowOf l Γ _ hfl a b rf f z F Z σ hX.1 hX.2.1 (nI k) (nI 4)) (fun E => exc0 (rw0 (k := k) (w := 4) (by omega) hX.2.1.n (by omega))) (fun r h => vl_row (σ := σ) (k := k) (w := 4) (by have := hX.2.1.n; omega) (by omega) h) hE S k_X8_rowOf gL_holds_X8_rowOf rfl ⟨(Nat.le_of_ble_eq_true rfl), (Nat.le_of_ble_eq_true rfl)⟩ hK hP hS hA 0 (ci := 8) rfl rfl rfl rfl hl.1 (Nat.le_of_ble_eq_true rfl) rfl dL_holds_160 ⟨by show _ ≤ 400; omega, by show _ ≤ 2400; omega⟩ (fun H locs hP hS1 hk9 => ?_)
          have hk2 := cE_keep hk9 hS.1 hk2
          have hS := hS1
          refine lv_iload_n hx hb dL_holds_163 rfl (lv_at hl 5 rfl) ?_
          refine lv_ishr hx hb dL_holds_164 ?_
          refine lv_iconst (v := nI 1) hx hb dL_holds_165 (by decide) ?_
          refine lv_iand hx hb dL_holds_166 ?_
          refine lv_iconst (v := nI 1) hx hb dL_holds_167 (by decide) ?_
          refine bJne (P := (decide (vmk σ a0 k = 0))) (pc1 := 0) (pc2 := 0) (pc3 := 175) (pc4 := 176) hx hb dL_holds_168 (by decide) dL_holds_171 dL_holds_172 (by decide) dL_holds_175 rfl (is_s ha0) ?_
          refine lv_icmp_ne (tgt := 205) hx hb dL_holds_176 (by decide) (fun c_176 => ?_) (fun c_176 => ?_)
          · exact absurd rfl c_176
          · refine lv_iload hx hb dL_holds_179 (lv_at hl 0 rfl) ?_
            refine lv_if_eq (tgt := 189) hx hb dL_holds_181 (by decide) (fun c_181 => ?_) (fun c_181 => ?_)
            · refine lv_iload hx hb dL_holds_189 (lv_at hl 10 rfl) ?_
              refine lv_aload_n hx hb dL_holds_191 rfl (lv_at hl 2 rfl) ?_
              refine lv_iconst (v := nI 1) hx hb dL_holds_192 (by decide) ?_
              refine lkV (As := [.int (nI 1)]) (rest := [.int (nI (vmk σ a0 k))]) (v := (nI (σ 1))) (m_X8_count l Γ _ hfl a b rf f z F Z σ hX.1 hX.2.1 (nI 1)) (fun E => exc0 (co0 (w := 1) (by decide))) (fun r h => vl_cnt (σ := σ) (z := z) (w := 1) (by decide) h) hE S k_X8_count gL_holds_X8_count rfl ⟨(Nat.le_of_ble_eq_true rfl), (Nat.le_of_ble_eq_true rfl)⟩ hK hP hS hA 0 (ci := 8) rfl rfl rfl rfl hl.1 (Nat.le_of_ble_eq_true rfl) rfl dL_holds_193 ⟨by show _ ≤ 400; omega, by show _ ≤ 2400; omega⟩ (fun H locs hP hS1 hk9 => ?_)
              have hk2 := cE_keep hk9 hS.1 hk2
              have hS := hS1
              refine lv_ior hx hb dL_holds_196 ?_
              refine asi (z := nI (σ 1)) (vor σ a0 k) ?_
              refine lv_aload_n hx hb dL_holds_197 rfl (lv_at hl 2 rfl) ?_
              refine lv_iconst (v := nI 1) hx hb dL_holds_198 (by decide) ?_
              refine lkV (As := [.int (nI 1)]) (rest := [.int (nI (σ 1))]) (v := (nI (σ 1))) (m_X8_count l Γ _ hfl a b rf f z F Z σ hX.1 hX.2.1 (nI 1)) (fun E => exc0 (co0 (w := 1) (by decide))) (fun r h => vl_cnt (σ := σ) (z := z) (w := 1) (by decide) h) hE S k_X8_count gL_holds_X8_count rfl ⟨(Nat.le_of_ble_eq_true rfl), (Nat.le_of_ble_eq_true rfl)⟩ hK hP hS hA 0 (ci := 8) rfl rfl rfl rfl hl.1 (Nat.le_of_ble_eq_true rfl) rfl dL_holds_199 ⟨by show _ ≤ 400; omega, by show _ ≤ 2400; omega⟩ (fun H locs hP hS1 hk9 => ?_)
              have hk2 := cE_keep hk9 hS.1 hk2
              have hS := hS1
              refine lv_icmp_eq (tgt := 207) hx hb dL_holds_202 (by decide) (fun c_202 => ?_) (fun c_202 => ?_)
              · refine lv_iinc (v := nI (k + 1)) (lv' := [(7, .int (nI (k + 1))), (10, .int (bI (decide (oR σ k 0 = a0)))), (6, .int (nI (cnt (skP σ a0 (nI j0 - nI 1) lo 99) (k + 1)))), (0, .ref (a 34)), (1, .int w), (2, .int (nI (σ 0))), (3, .int (nI a0)), (4, .int (nI j0 - nI 1)), (5, .int (nI lo)), (8, .int (bI (decide (vmk σ a0 k = 0)))), (9, .int (nI (vmk σ a0 k)))]) hx hb dL_holds_207 hl (k := 8) rfl (nI_add _ _) (by decide) rfl (fun ls hl => ?_)
                refine lv_goto (tgt := 40) hx hb dL_holds_210 (by decide) ?_
                exact ih_40 (k + 1) _ _ (by omega) (by omega) (by omega) (by omega) _ _ hP hS hk2 ls (lv_sub hl [3, 4, 5, 6, 7, 8, 2, 0] rfl)
              · exact absurd rfl c_202
            · refine lv_iload hx hb dL_holds_184 (lv_at hl 10 rfl) ?_
              refine lv_if_ne (tgt := 205) hx hb dL_holds_186 (by decide) (fun c_186 => ?_) (fun c_186 => ?_)
              · have n_186 := (not_congr (nI_eq (a := (vmk σ a0 k)) (b := 0) (by omega) (by omega))).mp c_186
                exact absurd (vmk_own (of_decide_eq_true (bI_nz.mp c_181))) n_186
              · have n_186 := (nI_eq (a := (vmk σ a0 k)) (b := 0) (by omega) (by omega)).mp c_186
                refine lv_iload hx hb dL_holds_189 (lv_at hl 10 rfl) ?_
                refine lv_aload_n hx hb dL_holds_191 rfl (lv_at hl 2 rfl) ?_
                refine lv_iconst (v := nI 1) hx hb dL_holds_192 (by decide) ?_
                refine lkV (As := [.int (nI 1)]) (rest := [.int (nI (vmk σ a0 k))]) (v := (nI (σ 1))) (m_X8_count l Γ _ hfl a b rf f z F Z σ hX.1 hX.2.1 (nI 1)) (fun E => exc0 (co0 (w := 1) (by decide))) (fun r h => vl_cnt (σ := σ) (z := z) (w := 1) (by decide) h) hE S k_X8_count gL_holds_X8_count rfl ⟨(Nat.le_of_ble_eq_true rfl), (Nat.le_of_ble_eq_true rfl)⟩ hK hP hS hA 0 (ci := 8) rfl rfl rfl rfl hl.1 (Nat.le_of_ble_eq_true rfl) rfl dL_holds_193 ⟨by show _ ≤ 400; omega, by show _ ≤ 2400; omega⟩ (fun H locs hP hS1 hk9 => ?_)
                have hk2 := cE_keep hk9 hS.1 hk2
                have hS := hS1
                refine lv_ior hx hb dL_holds_196 ?_
                refine asi (z := nI (σ 1)) (vor σ a0 k) ?_
                refine lv_aload_n hx hb dL_holds_197 rfl (lv_at hl 2 rfl) ?_
                refine lv_iconst (v := nI 1) hx hb dL_holds_198 (by decide) ?_
                refine lkV (As := [.int (nI 1)]) (rest := [.int (nI (σ 1))]) (v := (nI (σ 1))) (m_X8_count l Γ _ hfl a b rf f z F Z σ hX.1 hX.2.1 (nI 1)) (fun E => exc0 (co0 (w := 1) (by decide))) (fun r h => vl_cnt (σ := σ) (z := z) (w := 1) (by decide) h) hE S k_X8_count gL_holds_X8_count rfl ⟨(Nat.le_of_ble_eq_true rfl), (Nat.le_of_ble_eq_true rfl)⟩ hK hP hS hA 0 (ci := 8) rfl rfl rfl rfl hl.1 (Nat.le_of_ble_eq_true rfl) rfl dL_holds_199 ⟨by show _ ≤ 400; omega, by show _ ≤ 2400; omega⟩ (fun H locs hP hS1 hk9 => ?_)
                have hk2 := cE_keep hk9 hS.1 hk2
                have hS := hS1
                refine lv_icmp_eq (tgt := 207) hx hb dL_holds_202 (by decide) (fun c_202 => ?_) (fun c_202 => ?_)
                · refine lv_iinc (v := nI (k + 1)) (lv' := [(7, .int (nI (k + 1))), (10, .int (bI (decide (oR σ k 0 = a0)))), (6, .int (nI (cnt (skP σ a0 (nI j0 - nI 1) lo 99) (k + 1)))), (0, .ref (a 34)), (1, .int w), (2, .int (nI (σ 0))), (3, .int (nI a0)), (4, .int (nI j0 - nI 1)), (5, .int (nI lo)), (8, .int (bI (decide (vmk σ a0 k = 0)))), (9, .int (nI (vmk σ a0 k)))]) hx hb dL_holds_207 hl (k := 8) rfl (nI_add _ _) (by decide) rfl (fun ls hl => ?_)
                  refine lv_goto (tgt := 40) hx hb dL_holds_210 (by decide) ?_
                  exact ih_40 (k + 1) _ _ (by omega) (by omega) (by omega) (by omega) _ _ hP hS hk2 ls (lv_sub hl [3, 4, 5, 6, 7, 8, 2, 0] rfl)
                · exact absurd rfl c_202
      refine lv_iload hx hb dL_holds_40 (lv_at hl 7 rfl) ?_
      refine lv_iload_n hx hb dL_holds_42 rfl (lv_at hl 2 rfl) ?_
      refine lv_icmp_ge (tgt := 213) hx hb dL_holds_43 (by decide) (fun c_43 => ?_) (fun c_43 => ?_)
      · have n_43 := (nI_leI (a := (σ 0)) (b := k) (by omega) (by omega)).mp c_43
        obtain rfl : k = σ 0 := by omega
        have hl : lv_has ls 13 [(0, .ref (a 34)), (1, .int w), (2, .int (nI (σ 0))), (3, .int (nI a0)), (4, .int (nI j0 - nI 1)), (5, .int (nI lo)), (6, .int (nI (ones (seenQ σ a0 (nI j0 - nI 1) lo 99)))), (7, .int (nI (σ 0)))] := by rw [← seen_cnt hI]; exact lv_sub hl [0, 1, 2, 3, 4, 5, 6, 7] rfl
        refine lv_aload_n hx hb dL_holds_213 rfl (lv_at hl 0 rfl) ?_
        refine lv_iload_n hx hb dL_holds_214 rfl (lv_at hl 3 rfl) ?_
        refine lv_iload hx hb dL_holds_215 (lv_at hl 4 rfl) ?_
        refine lv_iload hx hb dL_holds_217 (lv_at hl 5 rfl) ?_
        refine lv_bipush (v := nI 99) hx hb dL_holds_219 (by decide) ?_
        refine lv_iconst (v := nI 0) hx hb dL_holds_221 (by decide) ?_
        refine lkV (As := [.int (nI a0), .int (nI j0 - nI 1), .int (nI lo), .int (nI 99), .int (nI 0)]) (rest := []) (v := (cAns σ a0 (seenQ σ a0 (nI j0 - nI 1) lo 99))) (m_X8_ifAsked l Γ _ hfl a b rf f z F Z σ hX.1 hX.2.1 (nI a0) (nI j0 - nI 1) (nI lo) (nI 99) (nI 0)) (fun E => exc0 (if0 (a := a0) (j := j0) (lo := lo) (hi := 99) (w := 0) (by omega) (by omega) (by omega) (by omega) (by decide))) (fun r h => vl_ifa (σ := σ) (a := a0) (pl := nI j0 - nI 1) (lo := lo) (hi := 99) (w := 0) (by omega) (by omega) (by omega) (by decide) h) hE S k_X8_ifAsked gL_holds_X8_ifAsked rfl ⟨(Nat.le_of_ble_eq_true rfl), (Nat.le_of_ble_eq_true rfl)⟩ hK hP hS hA 0 (ci := 8) rfl rfl rfl rfl hl.1 (Nat.le_of_ble_eq_true rfl) rfl dL_holds_222 ⟨by show _ ≤ 400; omega, by show _ ≤ 2400; omega⟩ (fun H locs hP hS1 hk9 => ?_)
        have hk2 := cE_keep hk9 hS.1 hk2
        have hS := hS1
        refine lv_istore (lv' := [(7, .int (cAns σ a0 (seenQ σ a0 (nI j0 - nI 1) lo 99))), (0, .ref (a 34)), (1, .int w), (2, .int (nI (σ 0))), (3, .int (nI a0)), (4, .int (nI j0 - nI 1)), (5, .int (nI lo)), (6, .int (nI (ones (seenQ σ a0 (nI j0 - nI 1) lo 99))))]) hx hb dL_holds_225 hl (by decide) rfl (fun ls hl => ?_)
        refine lv_iconst (v := nI 0) hx hb dL_holds_227 (by decide) ?_
        refine lv_istore (lv' := [(8, .int (nI 0)), (7, .int (cAns σ a0 (seenQ σ a0 (nI j0 - nI 1) lo 99))), (0, .ref (a 34)), (1, .int w), (2, .int (nI (σ 0))), (3, .int (nI a0)), (4, .int (nI j0 - nI 1)), (5, .int (nI lo)), (6, .int (nI (ones (seenQ σ a0 (nI j0 - nI 1) lo 99))))]) hx hb dL_holds_228 hl (by decide) rfl (fun ls hl => ?_)
        refine lv_iconst (v := nI 0) hx hb dL_holds_230 (by decide) ?_
        refine lv_istore (lv' := [(9, .int (nI 0)), (8, .int (nI 0)), (7, .int (cAns σ a0 (seenQ σ a0 (nI j0 - nI 1) lo 99))), (0, .ref (a 34)), (1, .int w), (2, .int (nI (σ 0))), (3, .int (nI a0)), (4, .int (nI j0 - nI 1)), (5, .int (nI lo)), (6, .int (nI (ones (seenQ σ a0 (nI j0 - nI 1) lo 99))))]) hx hb dL_holds_231 hl (by decide) rfl (fun ls hl => ?_)
        refine lv_iconst (v := nI 0) hx hb dL_holds_233 (by decide) ?_
        refine lv_istore (lv' := [(10, .int (nI 0)), (9, .int (nI 0)), (8, .int (nI 0)), (7, .int (cAns σ a0 (seenQ σ a0 (nI j0 - nI 1) lo 99))), (0, .ref (a 34)), (1, .int w), (2, .int (nI (σ 0))), (3, .int (nI a0)), (4, .int (nI j0 - nI 1)), (5, .int (nI lo)), (6, .int (nI (ones (seenQ σ a0 (nI j0 - nI 1) lo 99))))]) hx hb dL_holds_234 hl (by decide) rfl (fun ls hl => ?_)
        refine lv_iconst (v := nI 0) hx hb dL_holds_236 (by decide) ?_
        refine lv_istore (lv' := [(11, .int (nI 0)), (10, .int (nI 0)), (9, .int (nI 0)), (8, .int (nI 0)), (7, .int (cAns σ a0 (seenQ σ a0 (nI j0 - nI 1) lo 99))), (0, .ref (a 34)), (1, .int w), (2, .int (nI (σ 0))), (3, .int (nI a0)), (4, .int (nI j0 - nI 1)), (5, .int (nI lo)), (6, .int (nI (ones (seenQ σ a0 (nI j0 - nI 1) lo 99))))]) hx hb dL_holds_237 hl (by decide) rfl (fun ls hl => ?_)
        exact L_239 (5 + 1) 0 _ _ (by omega) (by omega) (by omega) (by omega) _ _ hP hS hk2 ls (lv_sub hl [5, 6, 7, 8, 9, 10, 11, 4, 3, 2, 1, 0] rfl)
      · have n_43 := (not_congr (nI_leI (a := (σ 0)) (b := k) (by omega) (by omega))).mp c_43
        have hk0 : k < σ 0 := by omega
        have hr := hI.row hk0
        have hv16 := vmk_lt σ a0 k
        refine lv_aload_n hx hb dL_holds_46 rfl (lv_at hl 0 rfl) ?_
        refine lv_iload_n hx hb dL_holds_47 rfl (lv_at hl 3 rfl) ?_
        refine lv_iconst (v := nI 4) hx hb dL_holds_48 (by decide) ?_
        refine lkV (As := [.int (nI a0), .int (nI 4)]) (rest := []) (v := (nI (sAll σ a0))) (m_X8_personOf l Γ _ hfl a b rf f z F Z σ hX.1 hX.2.1 (nI a0) (nI 4)) (fun E => exc0 (pe0 (k := a0) (w := 4) (by omega) (by omega))) (fun r h => vl_per (σ := σ) (k := a0) (w := 4) (by omega) (by omega) h) hE S k_X8_personOf gL_holds_X8_personOf rfl ⟨(Nat.le_of_ble_eq_true rfl), (Nat.le_of_ble_eq_true rfl)⟩ hK hP hS hA 0 (ci := 8) rfl rfl rfl rfl hl.1 (Nat.le_of_ble_eq_true rfl) rfl dL_holds_49 ⟨by show _ ≤ 400; omega, by show _ ≤ 2400; omega⟩ (fun H locs hP hS1 hk9 => ?_)
        have hk2 := cE_keep hk9 hS.1 hk2
        have hS := hS1
        refine lv_iload hx hb dL_holds_52 (lv_at hl 7 rfl) ?_
        refine lv_ishr hx hb dL_holds_54 ?_
        refine lv_iconst (v := nI 1) hx hb dL_holds_55 (by decide) ?_
        refine lv_iand hx hb dL_holds_56 ?_
        refine lv_iconst (v := nI 1) hx hb dL_holds_57 (by decide) ?_
        refine bJne (P := (decide (vmk σ a0 k = 0))) (pc1 := 0) (pc2 := 0) (pc3 := 65) (pc4 := 66) hx hb dL_holds_58 (by decide) dL_holds_61 dL_holds_62 (by decide) dL_holds_65 rfl (is_a hI hk0) ?_
        refine lv_istore (lv' := [(8, .int (bI (decide (vmk σ a0 k = 0)))), (0, .ref (a 34)), (1, .int w), (2, .int (nI (σ 0))), (3, .int (nI a0)), (4, .int (nI j0 - nI 1)), (5, .int (nI lo)), (6, .int (nI (cnt (skP σ a0 (nI j0 - nI 1) lo 99) k))), (7, .int (nI k))]) hx hb dL_holds_66 hl (by decide) rfl (fun ls hl => ?_)
        refine lv_aload_n hx hb dL_holds_68 rfl (lv_at hl 1 rfl) ?_
        refine lv_iload_n hx hb dL_holds_69 rfl (lv_at hl 4 rfl) ?_
        refine lv_iload hx hb dL_holds_70 (lv_at hl 8 rfl) ?_
        refine lkV (As := [.int (nI a0), .int (nI k)]) (rest := []) (v := (nI (vmk σ a0 k))) (m_X8_veils l Γ _ hfl a b rf f z F Z σ hX.1 hX.2.1 (nI a0) (nI k)) (fun E => exc0 (ve0 (k := a0) (w := k) (by omega) (by omega) hX.2.1.n)) (fun r h => vl_vei (σ := σ) (k := a0) (w := k) (by omega) (by have := hX.2.1.n; omega) h) hE S k_X8_veils gL_holds_X8_veils rfl ⟨(Nat.le_of_ble_eq_true rfl), (Nat.le_of_ble_eq_true rfl)⟩ hK hP hS hA 0 (ci := 8) rfl rfl rfl rfl hl.1 (Nat.le_of_ble_eq_true rfl) rfl dL_holds_72 ⟨by show _ ≤ 400; omega, by show _ ≤ 2400; omega⟩ (fun H locs hP hS1 hk9 => ?_)
        have hk2 := cE_keep hk9 hS.1 hk2
        have hS := hS1
        refine lv_istore (lv' := [(9, .int (nI (vmk σ a0 k))), (8, .int (bI (decide (vmk σ a0 k = 0)))), (0, .ref (a 34)), (1, .int w), (2, .int (nI (σ 0))), (3, .int (nI a0)), (4, .int (nI j0 - nI 1)), (5, .int (nI lo)), (6, .int (nI (cnt (skP σ a0 (nI j0 - nI 1) lo 99) k))), (7, .int (nI k))]) hx hb dL_holds_75 hl (by decide) rfl (fun ls hl => ?_)
        refine lv_iload hx hb dL_holds_77 (lv_at hl 8 rfl) ?_
        refine lv_iload hx hb dL_holds_79 (lv_at hl 1 rfl) ?_
        refine lv_if_eq (tgt := 117) hx hb dL_holds_81 (by decide) (fun c_81 => ?_) (fun c_81 => ?_)
        · have n_81 := bI_z.mp c_81
          refine lv_iconst (v := nI 0) hx hb dL_holds_117 (by decide) ?_
          refine asi (z := bI (skP σ a0 (nI j0 - nI 1) lo 99 k)) (bf (sk_f0 n_81)) ?_
          exact L_118  _ _ hk0 (by omega) (by omega) _ _ hP hS hk2 ls (lv_sub hl [2, 3, 4, 5, 6, 7, 9, 1, 0] rfl)
        · have n_81 := bI_nz.mp c_81
          refine lv_iload hx hb dL_holds_84 (lv_at hl 6 rfl) ?_
          refine lv_if_lt (tgt := 101) hx hb dL_holds_86 (by decide) (fun c_86 => ?_) (fun c_86 => ?_)
          · refine lv_aload_n hx hb dL_holds_101 rfl (lv_at hl 2 rfl) ?_
            refine lv_iload hx hb dL_holds_102 (lv_at hl 9 rfl) ?_
            refine lv_iconst (v := nI 2) hx hb dL_holds_104 (by decide) ?_
            refine lkV (As := [.int (nI k), .int (nI 2)]) (rest := [.int (nI (cnt (skP σ a0 (nI j0 - nI 1) lo 99) k))]) (v := (nI (oR σ k 2))) (m_X8_rowOf l Γ _ hfl a b rf f z F Z σ hX.1 hX.2.1 (nI k) (nI 2)) (fun E => exc0 (rw0 (k := k) (w := 2) (by omega) hX.2.1.n (by omega))) (fun r h => vl_row (σ := σ) (k := k) (w := 2) (by have := hX.2.1.n; omega) (by omega) h) hE S k_X8_rowOf gL_holds_X8_rowOf rfl ⟨(Nat.le_of_ble_eq_true rfl), (Nat.le_of_ble_eq_true rfl)⟩ hK hP hS hA 0 (ci := 8) rfl rfl rfl rfl hl.1 (Nat.le_of_ble_eq_true rfl) rfl dL_holds_105 ⟨by show _ ≤ 400; omega, by show _ ≤ 2400; omega⟩ (fun H locs hP hS1 hk9 => ?_)
            have hk2 := cE_keep hk9 hS.1 hk2
            have hS := hS1
            refine lv_iload hx hb dL_holds_108 (lv_at hl 7 rfl) ?_
            refine lv_icmp_lt (tgt := 117) hx hb dL_holds_110 (by decide) (fun c_110 => ?_) (fun c_110 => ?_)
            · have n_110 := (nI_ltI (a := (oR σ k 2)) (b := lo) (by omega) (by omega)).mp c_110
              refine lv_iconst (v := nI 0) hx hb dL_holds_117 (by decide) ?_
              refine asi (z := bI (skP σ a0 (nI j0 - nI 1) lo 99 k)) (bf (sk_f2 n_110)) ?_
              exact L_118  _ _ hk0 (by omega) (by omega) _ _ hP hS hk2 ls (lv_sub hl [2, 3, 4, 5, 6, 7, 9, 1, 0] rfl)
            · have n_110 := (not_congr (nI_ltI (a := (oR σ k 2)) (b := lo) (by omega) (by omega))).mp c_110
              refine lv_iconst (v := nI 1) hx hb dL_holds_113 (by decide) ?_
              refine asi (z := bI (skP σ a0 (nI j0 - nI 1) lo 99 k)) (bt (sk_t1 hI hk0 n_81 hj0 c_86 (by omega))) ?_
              refine lv_goto (tgt := 118) hx hb dL_holds_114 (by decide) ?_
              exact L_118  _ _ hk0 (by omega) (by omega) _ _ hP hS hk2 ls (lv_sub hl [2, 3, 4, 5, 6, 7, 9, 1, 0] rfl)
          · refine lv_aload_n hx hb dL_holds_89 rfl (lv_at hl 2 rfl) ?_
            refine lv_iload hx hb dL_holds_90 (lv_at hl 9 rfl) ?_
            refine lv_iconst (v := nI 1) hx hb dL_holds_92 (by decide) ?_
            refine lkV (As := [.int (nI k), .int (nI 1)]) (rest := [.int (nI (cnt (skP σ a0 (nI j0 - nI 1) lo 99) k))]) (v := (nI (oR σ k 1))) (m_X8_rowOf l Γ _ hfl a b rf f z F Z σ hX.1 hX.2.1 (nI k) (nI 1)) (fun E => exc0 (rw0 (k := k) (w := 1) (by omega) hX.2.1.n (by omega))) (fun r h => vl_row (σ := σ) (k := k) (w := 1) (by have := hX.2.1.n; omega) (by omega) h) hE S k_X8_rowOf gL_holds_X8_rowOf rfl ⟨(Nat.le_of_ble_eq_true rfl), (Nat.le_of_ble_eq_true rfl)⟩ hK hP hS hA 0 (ci := 8) rfl rfl rfl rfl hl.1 (Nat.le_of_ble_eq_true rfl) rfl dL_holds_93 ⟨by show _ ≤ 400; omega, by show _ ≤ 2400; omega⟩ (fun H locs hP hS1 hk9 => ?_)
            have hk2 := cE_keep hk9 hS.1 hk2
            have hS := hS1
            refine lv_iload hx hb dL_holds_96 (lv_at hl 6 rfl) ?_
            refine lv_icmp_ne (tgt := 117) hx hb dL_holds_98 (by decide) (fun c_98 => ?_) (fun c_98 => ?_)
            · refine lv_iconst (v := nI 0) hx hb dL_holds_117 (by decide) ?_
              refine asi (z := bI (skP σ a0 (nI j0 - nI 1) lo 99 k)) (bf (sk_f1 hj0 c_86 c_98)) ?_
              exact L_118  _ _ hk0 (by omega) (by omega) _ _ hP hS hk2 ls (lv_sub hl [2, 3, 4, 5, 6, 7, 9, 1, 0] rfl)
            · refine lv_aload_n hx hb dL_holds_101 rfl (lv_at hl 2 rfl) ?_
              refine lv_iload hx hb dL_holds_102 (lv_at hl 9 rfl) ?_
              refine lv_iconst (v := nI 2) hx hb dL_holds_104 (by decide) ?_
              refine lkV (As := [.int (nI k), .int (nI 2)]) (rest := [.int (nI (cnt (skP σ a0 (nI j0 - nI 1) lo 99) k))]) (v := (nI (oR σ k 2))) (m_X8_rowOf l Γ _ hfl a b rf f z F Z σ hX.1 hX.2.1 (nI k) (nI 2)) (fun E => exc0 (rw0 (k := k) (w := 2) (by omega) hX.2.1.n (by omega))) (fun r h => vl_row (σ := σ) (k := k) (w := 2) (by have := hX.2.1.n; omega) (by omega) h) hE S k_X8_rowOf gL_holds_X8_rowOf rfl ⟨(Nat.le_of_ble_eq_true rfl), (Nat.le_of_ble_eq_true rfl)⟩ hK hP hS hA 0 (ci := 8) rfl rfl rfl rfl hl.1 (Nat.le_of_ble_eq_true rfl) rfl dL_holds_105 ⟨by show _ ≤ 400; omega, by show _ ≤ 2400; omega⟩ (fun H locs hP hS1 hk9 => ?_)
              have hk2 := cE_keep hk9 hS.1 hk2
              have hS := hS1
              refine lv_iload hx hb dL_holds_108 (lv_at hl 7 rfl) ?_
              refine lv_icmp_lt (tgt := 117) hx hb dL_holds_110 (by decide) (fun c_110 => ?_) (fun c_110 => ?_)
              · have n_110 := (nI_ltI (a := (oR σ k 2)) (b := lo) (by omega) (by omega)).mp c_110
                refine lv_iconst (v := nI 0) hx hb dL_holds_117 (by decide) ?_
                refine asi (z := bI (skP σ a0 (nI j0 - nI 1) lo 99 k)) (bf (sk_f2 n_110)) ?_
                exact L_118  _ _ hk0 (by omega) (by omega) _ _ hP hS hk2 ls (lv_sub hl [2, 3, 4, 5, 6, 7, 9, 1, 0] rfl)
              · have n_110 := (not_congr (nI_ltI (a := (oR σ k 2)) (b := lo) (by omega) (by omega))).mp c_110
                refine lv_iconst (v := nI 1) hx hb dL_holds_113 (by decide) ?_
                refine asi (z := bI (skP σ a0 (nI j0 - nI 1) lo 99 k)) (bt (sk_t2 hI hk0 n_81 c_98 (by omega))) ?_
                refine lv_goto (tgt := 118) hx hb dL_holds_114 (by decide) ?_
                exact L_118  _ _ hk0 (by omega) (by omega) _ _ hP hS hk2 ls (lv_sub hl [2, 3, 4, 5, 6, 7, 9, 1, 0] rfl)
  refine lv_aload_n hx hb dL_holds_0 rfl (lv_at hl 0 rfl) ?_
  refine lv_iconst (v := nI 0) hx hb dL_holds_1 (by decide) ?_
  refine lkV (As := [.int (nI 0)]) (rest := []) (v := (nI (σ 0))) (m_X8_count l Γ _ hfl a b rf f z F Z σ hX.1 hX.2.1 (nI 0)) (fun E => exc0 (co0 (w := 0) (by decide))) (fun r h => vl_cnt (σ := σ) (z := z) (w := 0) (by decide) h) hE S k_X8_count gL_holds_X8_count rfl ⟨(Nat.le_of_ble_eq_true rfl), (Nat.le_of_ble_eq_true rfl)⟩ hK hP hS hA 0 (ci := 8) rfl rfl rfl rfl hl.1 (Nat.le_of_ble_eq_true rfl) rfl dL_holds_2 ⟨by show _ ≤ 400; omega, by show _ ≤ 2400; omega⟩ (fun H locs hP hS1 hk9 => ?_)
  have hk2 := cE_keep hk9 hS.1 hk2
  have hS := hS1
  refine lv_istore_n (lv' := [(2, .int (nI (σ 0))), (0, .ref (a 34)), (1, .int w)]) hx hb dL_holds_5 rfl hl (by decide) rfl (fun ls hl => ?_)
  refine lv_iload_n hx hb dL_holds_6 rfl (lv_at hl 2 rfl) ?_
  refine lv_iconst (v := nI 5) hx hb dL_holds_7 (by decide) ?_
  refine cSi (As := [.int w, .int (nI 5)]) (rest := []) (m_L_low l w 5 (by decide) (by decide)) S k_L_low gL_holds_L_low ⟨Nat.le_of_ble_eq_true rfl, Nat.le_of_ble_eq_true rfl⟩ rfl hl.1 (Nat.le_of_ble_eq_true rfl) rfl dL_holds_8 ⟨Nat.le_of_ble_eq_true rfl, Nat.le_of_ble_eq_true rfl⟩ (fun r hr => ?_)
  subst hr
  refine asi (z := nI a0) (by rw [ea]) ?_
  refine lv_istore_n (lv' := [(3, .int (nI a0)), (2, .int (nI (σ 0))), (0, .ref (a 34)), (1, .int w)]) hx hb dL_holds_11 rfl hl (by decide) rfl (fun ls hl => ?_)
  refine lv_iload_n hx hb dL_holds_12 rfl (lv_at hl 3 rfl) ?_
  refine lv_iconst (v := nI 3) hx hb dL_holds_13 (by decide) ?_
  refine lv_ishr hx hb dL_holds_14 ?_
  refine lv_iconst (v := nI 5) hx hb dL_holds_15 (by decide) ?_
  refine cSi (As := [.int (w >>> ((nI 3) &&& 31)), .int (nI 5)]) (rest := []) (m_L_low l (w >>> ((nI 3) &&& 31)) 5 (by decide) (by decide)) S k_L_low gL_holds_L_low ⟨Nat.le_of_ble_eq_true rfl, Nat.le_of_ble_eq_true rfl⟩ rfl hl.1 (Nat.le_of_ble_eq_true rfl) rfl dL_holds_16 ⟨Nat.le_of_ble_eq_true rfl, Nat.le_of_ble_eq_true rfl⟩ (fun r hr => ?_)
  subst hr
  refine asi (z := nI j0) (by rw [ej]) ?_
  refine lv_iconst (v := nI 1) hx hb dL_holds_19 (by decide) ?_
  refine lv_isub hx hb dL_holds_20 ?_
  refine lv_istore (lv' := [(4, .int ((nI j0) - (nI 1))), (3, .int (nI a0)), (2, .int (nI (σ 0))), (0, .ref (a 34)), (1, .int w)]) hx hb dL_holds_21 hl (by decide) rfl (fun ls hl => ?_)
  refine lv_iload_n hx hb dL_holds_23 rfl (lv_at hl 4 rfl) ?_
  refine lv_bipush (v := nI 6) hx hb dL_holds_24 (by decide) ?_
  refine lv_ishr hx hb dL_holds_26 ?_
  refine lv_bipush (v := nI 60) hx hb dL_holds_27 (by decide) ?_
  refine cSi (As := [.int (w >>> ((nI 6) &&& 31)), .int (nI 60)]) (rest := []) (m_L_low l (w >>> ((nI 6) &&& 31)) 60 (by decide) (by decide)) S k_L_low gL_holds_L_low ⟨Nat.le_of_ble_eq_true rfl, Nat.le_of_ble_eq_true rfl⟩ rfl hl.1 (Nat.le_of_ble_eq_true rfl) rfl dL_holds_29 ⟨Nat.le_of_ble_eq_true rfl, Nat.le_of_ble_eq_true rfl⟩ (fun r hr => ?_)
  subst hr
  refine asi (z := nI lo) (by rw [el]) ?_
  refine lv_istore (lv' := [(5, .int (nI lo)), (4, .int ((nI j0) - (nI 1))), (3, .int (nI a0)), (2, .int (nI (σ 0))), (0, .ref (a 34)), (1, .int w)]) hx hb dL_holds_32 hl (by decide) rfl (fun ls hl => ?_)
  refine lv_iconst (v := nI 0) hx hb dL_holds_34 (by decide) ?_
  refine lv_istore (lv' := [(6, .int (nI 0)), (5, .int (nI lo)), (4, .int ((nI j0) - (nI 1))), (3, .int (nI a0)), (2, .int (nI (σ 0))), (0, .ref (a 34)), (1, .int w)]) hx hb dL_holds_35 hl (by decide) rfl (fun ls hl => ?_)
  refine lv_iconst (v := nI 0) hx hb dL_holds_37 (by decide) ?_
  refine lv_istore (lv' := [(7, .int (nI 0)), (6, .int (nI 0)), (5, .int (nI lo)), (4, .int ((nI j0) - (nI 1))), (3, .int (nI a0)), (2, .int (nI (σ 0))), (0, .ref (a 34)), (1, .int w)]) hx hb dL_holds_38 hl (by decide) rfl (fun ls hl => ?_)
  exact L_40 (σ 0 + 1) 0 _ _ (by omega) (by omega) (by omega) (by omega) _ _ hP hS hk2 ls (lv_sub hl [6, 7, 5, 4, 3, 2, 1, 0] rfl)

