/-! The reference: forget, undo, questions. -/
def zG (g : Nat → Int32) (b k : Nat) : Nat → Int32 := fun j => if b ≤ j ∧ j < b + k then nI 0 else g j
theorem zG_0 (g : Nat → Int32) (b : Nat) : zG g b 0 = g := by funext j; exact if_neg (by omega)
theorem zG_s (g : Nat → Int32) (b k : Nat) : upd (zG g b k) (b + k) (nI 0) = zG g b (k + 1) := by
  funext j
  unfold upd zG
  by_cases c : j = b + k
  · rw [if_pos c, if_pos (by omega)]
  · rw [if_neg c]
    by_cases d : b ≤ j ∧ j < b + k
    · rw [if_pos d, if_pos (by omega)]
    · rw [if_neg d, if_neg (by omega)]
theorem zG_M {σ : Nat → Nat} {g : Nat → Int32} {p : Nat} (h : RepM σ g) : RepM (fgtS σ p) (zG g (95 + 7 * p) 7) := by
  intro j hj
  unfold zG fgtS
  by_cases c : 95 + 7 * p ≤ j ∧ j < 95 + 7 * p + 7
  · rw [if_pos c, if_pos (by omega)]
  · rw [if_neg c, if_neg (by omega)]; exact h j hj
def unG (g g1 : Nat → Int32) (sc k : Nat) : Nat → Int32 := fun j => if j < k then g1 (130 * sc + j) else g j
theorem unG_0 (g g1 : Nat → Int32) (sc : Nat) : unG g g1 sc 0 = g := by funext j; exact if_neg (by omega)
theorem unG_s (g g1 : Nat → Int32) (sc k : Nat) : upd (unG g g1 sc k) k (g1 (130 * sc + k)) = unG g g1 sc (k + 1) := by
  funext j
  unfold upd unG
  by_cases c : j = k
  · rw [if_pos c, if_pos (by omega), c]
  · rw [if_neg c]
    by_cases d : j < k
    · rw [if_pos d, if_pos (by omega)]
    · rw [if_neg d, if_neg (by omega)]
theorem unG_M {sc c : Nat} {ss : Nat → Nat → Nat} {g g1 : Nat → Int32} (h : SR sc ss g1) (hc : c < sc) : RepM (ss c) (unG g g1 c 130) := by
  intro j hj
  unfold unG
  rw [if_pos hj]
  exact (h c hc).1 j hj
def shR (g : Nat → Int32) (b k : Nat) : Nat → Int32 := fun j => if b ≤ j ∧ j < b + k then g (j + 1) else g j
theorem shR_0 (g : Nat → Int32) (b : Nat) : shR g b 0 = g := by funext j; exact if_neg (by omega)
theorem shR_s (g : Nat → Int32) (b k : Nat) : upd (shR g b k) (b + k) (shR g b k (b + k + 1)) = shR g b (k + 1) := by
  funext j
  unfold upd shR
  by_cases c : j = b + k
  · rw [if_pos c, if_neg (by omega : ¬ (b ≤ b + k + 1 ∧ b + k + 1 < b + k)), c, if_pos (by omega : b ≤ b + k ∧ b + k < b + (k + 1))]
  · rw [if_neg c]
    by_cases d : b ≤ j ∧ j < b + k
    · rw [if_pos d, if_pos (by omega)]
    · rw [if_neg d, if_neg (by omega)]
section RM
variable {σ : Nat → Nat} {g : Nat → Int32} {p x : Nat}
theorem rem_MB (h : RepM σ g) (h6 : oK σ p < 6) : RepM (remS σ p x) (upd (upd g (95 + 7 * p + 1 + oK σ p) (nI x)) (95 + 7 * p) (nI (oK σ p + 1))) := by
  intro j hj
  by_cases c : j = 95 + 7 * p
  · rw [c, up_t, show remS σ p x (95 + 7 * p) = kpN (oK σ p) from if_pos rfl, kpN_some h6]
  · rw [up_f c]
    by_cases d : j = 95 + 7 * p + 1 + oK σ p
    · rw [d, up_t]
      unfold remS
      rw [if_neg (by omega), if_pos (by omega), if_pos h6, if_pos (by omega)]
    · rw [up_f d, h j hj]
      unfold remS
      rw [if_neg c]
      by_cases e : 96 + 7 * p ≤ j ∧ j < 102 + 7 * p
      · rw [if_pos e, if_pos h6, if_neg (by omega)]
      · rw [if_neg e]
theorem rem_MA (h : RepM σ g) (h6 : oK σ p = 6) (hp : p < 5) : RepM (remS σ p x) (upd (upd (shR g (95 + 7 * p + 1) 5) (95 + 7 * p + 1 + 5) (nI x)) (95 + 7 * p) (nI (5 + 1))) := by
  intro j hj
  by_cases c : j = 95 + 7 * p
  · rw [c, up_t, show remS σ p x (95 + 7 * p) = kpN (oK σ p) from if_pos rfl, h6]; rfl
  · rw [up_f c]
    by_cases d : j = 95 + 7 * p + 1 + 5
    · rw [d, up_t]
      unfold remS
      rw [if_neg (by omega), if_pos (by omega), if_neg (by omega), if_pos (by omega)]
    · rw [up_f d]
      unfold remS shR
      rw [if_neg c]
      by_cases e : 96 + 7 * p ≤ j ∧ j < 102 + 7 * p
      · rw [if_pos (show 95 + 7 * p + 1 ≤ j ∧ j < 95 + 7 * p + 1 + 5 by omega), if_pos e, if_neg (show ¬ oK σ p < 6 by omega), if_neg (show ¬ j = 101 + 7 * p by omega)]; exact h (j + 1) (by omega)
      · rw [if_neg (show ¬ (95 + 7 * p + 1 ≤ j ∧ j < 95 + 7 * p + 1 + 5) by omega), if_neg e]; exact h j hj
theorem gvS_c {k q : Nat} (hp : p < 5) : ∀ n, n ≤ 6 → gvS (cntS σ p k) q x n = gvS σ q x n
  | 0, _ => rfl
  | n + 1, h => by
    show (gvS (cntS σ p k) q x n || _) = (gvS σ q x n || _)
    rw [gvS_c hp n (by omega), show oM (cntS σ p k) q n = oM σ q n from cnt_x (by omega)]
theorem gives_c {k q : Nat} (hp : p < 5) (h6 : oK σ q ≤ 6) : givesQ (cntS σ p k) q x = givesQ σ q x := by
  unfold givesQ
  rw [show oK (cntS σ p k) q = oK σ q from cnt_x (by omega)]
  exact gvS_c hp _ h6
theorem giv_M (h : RepM (cntS σ p 0) g) (hp : p < 5) : RepM (givS (cntS σ p 0)) (upd g 5 (nI (σ 5 + 1))) := by
  unfold givS
  rw [show cntS σ p 0 5 = σ 5 from cnt_x (by omega)]
  exact h.up
theorem nog_M (h : RepM (cntS σ p 0) g) (hp : p < 5) : RepM (cntS σ p 0) (upd g 5 (nI (σ 5 + 0))) := by
  intro j hj
  by_cases c : j = 5
  · rw [c, up_t, show cntS σ p 0 5 = σ 5 from cnt_x (by omega)]; rfl
  · rw [up_f c]; exact h j hj
end RM
abbrev rm_X9_remembers : Room := { frames := 1, cells := 0, slots := 0, locals := 21 }
theorem k_X9_remembers : Cal yX9_remembers wsX9_remembers rm_X9_remembers cX9_remembers 6 none 2 0 0 := ⟨⟨_, rfl⟩, rfl, rfl, by decide +kernel⟩
set_option maxHeartbeats 4000000 in
set_option maxRecDepth 100000 in
theorem m_X9_remembers (l : Launch) (Γ : Gm) (sz : Nat) (a : Nat → Nat) (v : Nat → Int32) (hs : Int64) (g : Nat → Nat → Int32) (σ : Nat → Nat) (hM : RepM σ (g 0)) (hI : Inv σ) (p0 x : Nat) (hp : p0 < 5) : MWv (S := Nat → Int32) l yX9_remembers wsX9_remembers rm_X9_remembers Γ sz (wMd Γ a v hs g) [.ref (a 0), .int (nI p0), .int (nI x)] (fun u => RepM (remS σ p0 x) u) (fun u => [(a 0, .inr (9, [.int (v 0), .ref (a 1), .ref (a 2), .int (v 1), .ref (a 3), .int (v 2), .int (v 3), .int (v 4), .ref (a 4), .int (v 5), .long hs])), (a 1, .inl (Γ.2.1, 130, .inl u)), (a 2, .inl (Γ.2.1, 780, .inl (g 1))), (a 3, .inl (Γ.2.1, 60, .inl (g 2))), (a 4, .inl (Γ.2.1, 88, .inl (g 3)))]) 0 0 := by
  refine mW (cc := cX9_remembers) (maxL := 6) (ret := none) (own := RX9) (by decide) rfl rfl (Nat.le_of_ble_eq_true rfl) ?_
  intro p e s m args below meth c S hrt hlk hin hsz hK hP hD hA hS ls hl
  subst hsz
  generalize hAe : va_A (wMd Γ a v hs g) s.heap.size = A at hD hA hS ⊢
  obtain ⟨hx, hb, hml, hown, hts⟩ := id S
  have hk6 := hI.kept hp
  have hl : lv_has ls 6 [(0, .ref (a 0)), (1, .int (nI p0)), (2, .int (nI x))] := hl
  have L_26 : ∀ (fuel : Nat), ∀ (k : Nat) (hk : k ≤ 5) (hfk : 5 - k < fuel) (n_20 : oK σ p0 = 6), ∀ (H : Heap) (locs : List Loc), gP Γ [(a 0, .inr (9, [.int (v 0), .ref (a 1), .ref (a 2), .int (v 1), .ref (a 3), .int (v 2), .int (v 3), .int (v 4), .ref (a 4), .int (v 5), .long hs])), (a 1, .inl (Γ.2.1, 130, .inl (shR (g 0) (95 + 7 * p0 + 1) k))), (a 2, .inl (Γ.2.1, 780, .inl (g 1))), (a 3, .inl (Γ.2.1, 60, .inl (g 2))), (a 4, .inl (Γ.2.1, 88, .inl (g 3)))] H → va_D A [(a 0, .inr (9, [.int (v 0), .ref (a 1), .ref (a 2), .int (v 1), .ref (a 3), .int (v 2), .int (v 3), .int (v 4), .ref (a 4), .int (v 5), .long hs])), (a 1, .inl (Γ.2.1, 130, .inl (shR (g 0) (95 + 7 * p0 + 1) k))), (a 2, .inl (Γ.2.1, 780, .inl (g 1))), (a 3, .inl (Γ.2.1, 60, .inl (g 2))), (a 4, .inl (Γ.2.1, 88, .inl (g 3)))] → va_S A s.heap H locs → ∀ ls : Array Slot, lv_has ls 6 [(0, .ref (a 0)), (1, .int (nI p0)), (2, .int (nI x)), (3, .int (nI (oK σ p0))), (4, .int (nI (95 + 7 * p0 + 1))), (5, .int (nI k))] → W p l e rm_X9_remembers s m args below meth c H locs 0 0 (MQ below (va_Qv (S := Nat → Int32) (fun u => RepM (remS σ p0 x) u) (fun u t9 => wd Γ A ([(a 0, .inr (9, [.int (v 0), .ref (a 1), .ref (a 2), .int (v 1), .ref (a 3), .int (v 2), .int (v 3), .int (v 4), .ref (a 4), .int (v 5), .long hs])), (a 1, .inl (Γ.2.1, 130, .inl u)), (a 2, .inl (Γ.2.1, 780, .inl (g 1))), (a 3, .inl (Γ.2.1, 60, .inl (g 2))), (a 4, .inl (Γ.2.1, 88, .inl (g 3)))]) t9) A) args s 0 0 A) (F0 m 26 ls []) := by
    intro fuel
    induction fuel with
    | zero => intro k hk hfk n_20; exact absurd hfk (by omega)
    | succ fuel ih_26 =>
      intro k hk hfk n_20 H locs hP hD hS ls hl
      refine lv_iload hx hb dX9_remembers_26 (lv_at hl 5 rfl) ?_
      refine lv_iconst (v := nI 5) hx hb dX9_remembers_28 (by decide) ?_
      refine lv_icmp_ge (tgt := 60) hx hb dX9_remembers_29 (by decide) (fun c_29 => ?_) (fun c_29 => ?_)
      · have n_29 := (nI_leI (a := 5) (b := k) (by omega) (by omega)).mp c_29
        rw [show k = 5 from by omega] at hP hD
        refine lv_iinc (v := nI 5) (lv' := [(3, .int (nI 5)), (0, .ref (a 0)), (1, .int (nI p0)), (2, .int (nI x)), (4, .int (nI (95 + 7 * p0 + 1))), (5, .int (nI k))]) hx hb dX9_remembers_60 hl (k := 3) rfl (by rw [n_20]; decide) (by decide) rfl (fun ls hl => ?_)
        refine lv_aload_n hx hb dX9_remembers_63 rfl (lv_at hl 1 rfl) ?_
        refine va_get (D := Γ.1) (ci := 9) (v := .ref (a 1)) (C := RX9) (T := TX9) (N := 11) hx hb hts (by decide +kernel) hown hK hP 0 rfl rfl 1 (by decide) (hts (.fieldLink RX9 7 "RowVeilsModel" "s" "[I") (by decide +kernel)) (fun _ h9 => h9) rfl dX9_remembers_64 ?_
        refine lv_iload hx hb dX9_remembers_67 (lv_at hl 4 rfl) ?_
        refine lv_iload_n hx hb dX9_remembers_69 rfl (lv_at hl 0 rfl) ?_
        refine lv_iadd hx hb dX9_remembers_70 ?_
        refine asi (z := nI ((95 + 7 * p0 + 1) + 5)) (nI_add _ _) ?_
        refine lv_iload_n hx hb dX9_remembers_71 rfl (lv_at hl 3 rfl) ?_
        refine va_iast hx hb hK hP hD hS 1 0 rfl rfl (vp_in_nI (by omega) (by omega)) dX9_remembers_72 (fun H locs hP hD hS => ?_)
        have ec : (nI ((95 + 7 * p0 + 1) + 5)).toNatClampNeg = ((95 + 7 * p0 + 1) + 5) := nI_clamp (by omega)
        rw [ec] at hP hD
        clear ec
        have hP : gP Γ [(a 0, .inr (9, [.int (v 0), .ref (a 1), .ref (a 2), .int (v 1), .ref (a 3), .int (v 2), .int (v 3), .int (v 4), .ref (a 4), .int (v 5), .long hs])), (a 1, .inl (Γ.2.1, 130, .inl (upd (shR (g 0) (95 + 7 * p0 + 1) 5) ((95 + 7 * p0 + 1) + 5) (nI x)))), (a 2, .inl (Γ.2.1, 780, .inl (g 1))), (a 3, .inl (Γ.2.1, 60, .inl (g 2))), (a 4, .inl (Γ.2.1, 88, .inl (g 3)))] H := hP
        have hD : va_D A [(a 0, .inr (9, [.int (v 0), .ref (a 1), .ref (a 2), .int (v 1), .ref (a 3), .int (v 2), .int (v 3), .int (v 4), .ref (a 4), .int (v 5), .long hs])), (a 1, .inl (Γ.2.1, 130, .inl (upd (shR (g 0) (95 + 7 * p0 + 1) 5) ((95 + 7 * p0 + 1) + 5) (nI x)))), (a 2, .inl (Γ.2.1, 780, .inl (g 1))), (a 3, .inl (Γ.2.1, 60, .inl (g 2))), (a 4, .inl (Γ.2.1, 88, .inl (g 3)))] := hD
        refine lv_aload_n hx hb dX9_remembers_73 rfl (lv_at hl 1 rfl) ?_
        refine va_get (D := Γ.1) (ci := 9) (v := .ref (a 1)) (C := RX9) (T := TX9) (N := 11) hx hb hts (by decide +kernel) hown hK hP 0 rfl rfl 1 (by decide) (hts (.fieldLink RX9 7 "RowVeilsModel" "s" "[I") (by decide +kernel)) (fun _ h9 => h9) rfl dX9_remembers_74 ?_
        refine lv_bipush (v := nI 95) hx hb dX9_remembers_77 (by decide) ?_
        refine lv_bipush (v := nI 7) hx hb dX9_remembers_79 (by decide) ?_
        refine lv_iload_n hx hb dX9_remembers_81 rfl (lv_at hl 2 rfl) ?_
        refine lv_imul hx hb dX9_remembers_82 ?_
        refine asi (z := nI (7 * p0)) (pk_mul _ _) ?_
        refine lv_iadd hx hb dX9_remembers_83 ?_
        refine asi (z := nI (95 + (7 * p0))) (nI_add _ _) ?_
        refine lv_iload_n hx hb dX9_remembers_84 rfl (lv_at hl 0 rfl) ?_
        refine lv_iconst (v := nI 1) hx hb dX9_remembers_85 (by decide) ?_
        refine lv_iadd hx hb dX9_remembers_86 ?_
        refine asi (z := nI 6) (nI_add _ _) ?_
        refine va_iast hx hb hK hP hD hS 1 0 rfl rfl (vp_in_nI (by omega) (by omega)) dX9_remembers_87 (fun H locs hP hD hS => ?_)
        have ec : (nI (95 + (7 * p0))).toNatClampNeg = (95 + (7 * p0)) := nI_clamp (by omega)
        rw [ec] at hP hD
        clear ec
        have hP : gP Γ [(a 0, .inr (9, [.int (v 0), .ref (a 1), .ref (a 2), .int (v 1), .ref (a 3), .int (v 2), .int (v 3), .int (v 4), .ref (a 4), .int (v 5), .long hs])), (a 1, .inl (Γ.2.1, 130, .inl (upd (upd (shR (g 0) (95 + 7 * p0 + 1) 5) ((95 + 7 * p0 + 1) + 5) (nI x)) (95 + (7 * p0)) (nI 6)))), (a 2, .inl (Γ.2.1, 780, .inl (g 1))), (a 3, .inl (Γ.2.1, 60, .inl (g 2))), (a 4, .inl (Γ.2.1, 88, .inl (g 3)))] H := hP
        have hD : va_D A [(a 0, .inr (9, [.int (v 0), .ref (a 1), .ref (a 2), .int (v 1), .ref (a 3), .int (v 2), .int (v 3), .int (v 4), .ref (a 4), .int (v 5), .long hs])), (a 1, .inl (Γ.2.1, 130, .inl (upd (upd (shR (g 0) (95 + 7 * p0 + 1) 5) ((95 + 7 * p0 + 1) + 5) (nI x)) (95 + (7 * p0)) (nI 6)))), (a 2, .inl (Γ.2.1, 780, .inl (g 1))), (a 3, .inl (Γ.2.1, 60, .inl (g 2))), (a 4, .inl (Γ.2.1, 88, .inl (g 3)))] := hD
        exact W.vret hx hb hrt (fun t9 ht9 hW9 => ⟨⟨upd (upd (shR (g 0) (95 + 7 * p0 + 1) 5) ((95 + 7 * p0 + 1) + 5) (nI x)) (95 + (7 * p0)) (nI 6), rfl, rem_MA hM n_20 hp, wd_end hK hP hD [0, 1, 2, 3, 4] (by decide) rfl t9 ht9 hW9⟩, hS.F ht9⟩) hS.2.2 dX9_remembers_88 hlk
      · have n_29 := (not_congr (nI_leI (a := 5) (b := k) (by omega) (by omega))).mp c_29
        refine lv_aload_n hx hb dX9_remembers_32 rfl (lv_at hl 0 rfl) ?_
        refine va_get (D := Γ.1) (ci := 9) (v := .ref (a 1)) (C := RX9) (T := TX9) (N := 11) hx hb hts (by decide +kernel) hown hK hP 0 rfl rfl 1 (by decide) (hts (.fieldLink RX9 7 "RowVeilsModel" "s" "[I") (by decide +kernel)) (fun _ h9 => h9) rfl dX9_remembers_33 ?_
        refine lv_iload hx hb dX9_remembers_36 (lv_at hl 4 rfl) ?_
        refine lv_iload hx hb dX9_remembers_38 (lv_at hl 5 rfl) ?_
        refine lv_iadd hx hb dX9_remembers_40 ?_
        refine asi (z := nI ((95 + 7 * p0 + 1) + k)) (nI_add _ _) ?_
        refine lv_aload_n hx hb dX9_remembers_41 rfl (lv_at hl 0 rfl) ?_
        refine va_get (D := Γ.1) (ci := 9) (v := .ref (a 1)) (C := RX9) (T := TX9) (N := 11) hx hb hts (by decide +kernel) hown hK hP 0 rfl rfl 1 (by decide) (hts (.fieldLink RX9 7 "RowVeilsModel" "s" "[I") (by decide +kernel)) (fun _ h9 => h9) rfl dX9_remembers_42 ?_
        refine lv_iload hx hb dX9_remembers_45 (lv_at hl 4 rfl) ?_
        refine lv_iload hx hb dX9_remembers_47 (lv_at hl 5 rfl) ?_
        refine lv_iadd hx hb dX9_remembers_49 ?_
        refine asi (z := nI ((95 + 7 * p0 + 1) + k)) (nI_add _ _) ?_
        refine lv_iconst (v := nI 1) hx hb dX9_remembers_50 (by decide) ?_
        refine lv_iadd hx hb dX9_remembers_51 ?_
        refine asi (z := nI (((95 + 7 * p0 + 1) + k) + 1)) (nI_add _ _) ?_
        refine va_iald hx hb hK hP 1 0 rfl rfl (vp_in_nI (by omega) (by omega)) dX9_remembers_52 ?_
        refine asi (z := (shR (g 0) (95 + 7 * p0 + 1) k) (((95 + 7 * p0 + 1) + k) + 1)) (congrArg _ (nI_clamp (by omega))) ?_
        refine va_iast hx hb hK hP hD hS 1 0 rfl rfl (vp_in_nI (by omega) (by omega)) dX9_remembers_53 (fun H locs hP hD hS => ?_)
        have ec : (nI ((95 + 7 * p0 + 1) + k)).toNatClampNeg = ((95 + 7 * p0 + 1) + k) := nI_clamp (by omega)
        rw [ec] at hP hD
        clear ec
        have hP : gP Γ [(a 0, .inr (9, [.int (v 0), .ref (a 1), .ref (a 2), .int (v 1), .ref (a 3), .int (v 2), .int (v 3), .int (v 4), .ref (a 4), .int (v 5), .long hs])), (a 1, .inl (Γ.2.1, 130, .inl (upd (shR (g 0) (95 + 7 * p0 + 1) k) ((95 + 7 * p0 + 1) + k) ((shR (g 0) (95 + 7 * p0 + 1) k) (((95 + 7 * p0 + 1) + k) + 1))))), (a 2, .inl (Γ.2.1, 780, .inl (g 1))), (a 3, .inl (Γ.2.1, 60, .inl (g 2))), (a 4, .inl (Γ.2.1, 88, .inl (g 3)))] H := hP
        have hD : va_D A [(a 0, .inr (9, [.int (v 0), .ref (a 1), .ref (a 2), .int (v 1), .ref (a 3), .int (v 2), .int (v 3), .int (v 4), .ref (a 4), .int (v 5), .long hs])), (a 1, .inl (Γ.2.1, 130, .inl (upd (shR (g 0) (95 + 7 * p0 + 1) k) ((95 + 7 * p0 + 1) + k) ((shR (g 0) (95 + 7 * p0 + 1) k) (((95 + 7 * p0 + 1) + k) + 1))))), (a 2, .inl (Γ.2.1, 780, .inl (g 1))), (a 3, .inl (Γ.2.1, 60, .inl (g 2))), (a 4, .inl (Γ.2.1, 88, .inl (g 3)))] := hD
        have ef : upd (shR (g 0) (95 + 7 * p0 + 1) k) ((95 + 7 * p0 + 1) + k) ((shR (g 0) (95 + 7 * p0 + 1) k) (((95 + 7 * p0 + 1) + k) + 1)) = shR (g 0) (95 + 7 * p0 + 1) (k + 1) := shR_s (g 0) (95 + 7 * p0 + 1) k
        rw [ef] at hP hD
        clear ef
        have hP : gP Γ [(a 0, .inr (9, [.int (v 0), .ref (a 1), .ref (a 2), .int (v 1), .ref (a 3), .int (v 2), .int (v 3), .int (v 4), .ref (a 4), .int (v 5), .long hs])), (a 1, .inl (Γ.2.1, 130, .inl (shR (g 0) (95 + 7 * p0 + 1) (k + 1)))), (a 2, .inl (Γ.2.1, 780, .inl (g 1))), (a 3, .inl (Γ.2.1, 60, .inl (g 2))), (a 4, .inl (Γ.2.1, 88, .inl (g 3)))] H := hP
        have hD : va_D A [(a 0, .inr (9, [.int (v 0), .ref (a 1), .ref (a 2), .int (v 1), .ref (a 3), .int (v 2), .int (v 3), .int (v 4), .ref (a 4), .int (v 5), .long hs])), (a 1, .inl (Γ.2.1, 130, .inl (shR (g 0) (95 + 7 * p0 + 1) (k + 1)))), (a 2, .inl (Γ.2.1, 780, .inl (g 1))), (a 3, .inl (Γ.2.1, 60, .inl (g 2))), (a 4, .inl (Γ.2.1, 88, .inl (g 3)))] := hD
        refine lv_iinc (v := nI (k + 1)) (lv' := [(5, .int (nI (k + 1))), (0, .ref (a 0)), (1, .int (nI p0)), (2, .int (nI x)), (3, .int (nI (oK σ p0))), (4, .int (nI (95 + 7 * p0 + 1)))]) hx hb dX9_remembers_54 hl (k := 5) rfl (nI_add _ _) (by decide) rfl (fun ls hl => ?_)
        refine lv_goto (tgt := 26) hx hb dX9_remembers_57 (by decide) ?_
        exact ih_26 (k + 1) (by omega) (by omega) n_20 _ _ hP hD hS ls (lv_sub hl [1, 2, 3, 4, 5, 0] rfl)
  have hH : s.heap = s.heap := rfl
  refine lv_aload_n hx hb dX9_remembers_0 rfl (lv_at hl 0 rfl) ?_
  refine lv_iload_n hx hb dX9_remembers_1 rfl (lv_at hl 1 rfl) ?_
  refine cRi (As := [.int (nI p0)]) (rest := []) (m_X9_kept l Γ a v hs g σ hM hI p0 hp) S k_X9_kept gX9_remembers_X9_kept rfl ⟨Nat.le_of_ble_eq_true rfl, Nat.le_of_ble_eq_true rfl⟩ hK hP [0, 1, 2, 3, 4] rfl 0 (ci := 9) rfl rfl rfl rfl hl.1 (Nat.le_of_ble_eq_true rfl) rfl dX9_remembers_2 ⟨Nat.le_of_ble_eq_true rfl, Nat.le_of_ble_eq_true rfl⟩ (fun r hr => ?_)
  subst hr
  refine lv_istore_n (lv' := [(3, .int (nI (oK σ p0))), (0, .ref (a 0)), (1, .int (nI p0)), (2, .int (nI x))]) hx hb dX9_remembers_5 rfl hl (by decide) rfl (fun ls hl => ?_)
  refine lv_bipush (v := nI 95) hx hb dX9_remembers_6 (by decide) ?_
  refine lv_bipush (v := nI 7) hx hb dX9_remembers_8 (by decide) ?_
  refine lv_iload_n hx hb dX9_remembers_10 rfl (lv_at hl 2 rfl) ?_
  refine lv_imul hx hb dX9_remembers_11 ?_
  refine asi (z := nI (7 * p0)) (pk_mul _ _) ?_
  refine lv_iadd hx hb dX9_remembers_12 ?_
  refine asi (z := nI (95 + (7 * p0))) (nI_add _ _) ?_
  refine lv_iconst (v := nI 1) hx hb dX9_remembers_13 (by decide) ?_
  refine lv_iadd hx hb dX9_remembers_14 ?_
  refine asi (z := nI ((95 + (7 * p0)) + 1)) (nI_add _ _) ?_
  refine lv_istore (lv' := [(4, .int (nI ((95 + (7 * p0)) + 1))), (3, .int (nI (oK σ p0))), (0, .ref (a 0)), (1, .int (nI p0)), (2, .int (nI x))]) hx hb dX9_remembers_15 hl (by decide) rfl (fun ls hl => ?_)
  refine lv_iload_n hx hb dX9_remembers_17 rfl (lv_at hl 1 rfl) ?_
  refine lv_bipush (v := nI 6) hx hb dX9_remembers_18 (by decide) ?_
  refine lv_icmp_ne (tgt := 63) hx hb dX9_remembers_20 (by decide) (fun c_20 => ?_) (fun c_20 => ?_)
  · have n_20 := (not_congr (nI_eq (a := (oK σ p0)) (b := 6) (by omega) (by omega))).mp c_20
    refine lv_aload_n hx hb dX9_remembers_63 rfl (lv_at hl 2 rfl) ?_
    refine va_get (D := Γ.1) (ci := 9) (v := .ref (a 1)) (C := RX9) (T := TX9) (N := 11) hx hb hts (by decide +kernel) hown hK hP 0 rfl rfl 1 (by decide) (hts (.fieldLink RX9 7 "RowVeilsModel" "s" "[I") (by decide +kernel)) (fun _ h9 => h9) rfl dX9_remembers_64 ?_
    refine lv_iload hx hb dX9_remembers_67 (lv_at hl 0 rfl) ?_
    refine lv_iload_n hx hb dX9_remembers_69 rfl (lv_at hl 1 rfl) ?_
    refine lv_iadd hx hb dX9_remembers_70 ?_
    refine asi (z := nI (((95 + (7 * p0)) + 1) + (oK σ p0))) (nI_add _ _) ?_
    refine lv_iload_n hx hb dX9_remembers_71 rfl (lv_at hl 4 rfl) ?_
    refine va_iast hx hb hK hP hD hS 1 0 rfl rfl (vp_in_nI (by omega) (by omega)) dX9_remembers_72 (fun H locs hP hD hS => ?_)
    have ec : (nI (((95 + (7 * p0)) + 1) + (oK σ p0))).toNatClampNeg = (((95 + (7 * p0)) + 1) + (oK σ p0)) := nI_clamp (by omega)
    rw [ec] at hP hD
    clear ec
    have hP : gP Γ [(a 0, .inr (9, [.int (v 0), .ref (a 1), .ref (a 2), .int (v 1), .ref (a 3), .int (v 2), .int (v 3), .int (v 4), .ref (a 4), .int (v 5), .long hs])), (a 1, .inl (Γ.2.1, 130, .inl (upd (g 0) (((95 + (7 * p0)) + 1) + (oK σ p0)) (nI x)))), (a 2, .inl (Γ.2.1, 780, .inl (g 1))), (a 3, .inl (Γ.2.1, 60, .inl (g 2))), (a 4, .inl (Γ.2.1, 88, .inl (g 3)))] H := hP
    have hD : va_D A [(a 0, .inr (9, [.int (v 0), .ref (a 1), .ref (a 2), .int (v 1), .ref (a 3), .int (v 2), .int (v 3), .int (v 4), .ref (a 4), .int (v 5), .long hs])), (a 1, .inl (Γ.2.1, 130, .inl (upd (g 0) (((95 + (7 * p0)) + 1) + (oK σ p0)) (nI x)))), (a 2, .inl (Γ.2.1, 780, .inl (g 1))), (a 3, .inl (Γ.2.1, 60, .inl (g 2))), (a 4, .inl (Γ.2.1, 88, .inl (g 3)))] := hD
    refine lv_aload_n hx hb dX9_remembers_73 rfl (lv_at hl 2 rfl) ?_
    refine va_get (D := Γ.1) (ci := 9) (v := .ref (a 1)) (C := RX9) (T := TX9) (N := 11) hx hb hts (by decide +kernel) hown hK hP 0 rfl rfl 1 (by decide) (hts (.fieldLink RX9 7 "RowVeilsModel" "s" "[I") (by decide +kernel)) (fun _ h9 => h9) rfl dX9_remembers_74 ?_
    refine lv_bipush (v := nI 95) hx hb dX9_remembers_77 (by decide) ?_
    refine lv_bipush (v := nI 7) hx hb dX9_remembers_79 (by decide) ?_
    refine lv_iload_n hx hb dX9_remembers_81 rfl (lv_at hl 3 rfl) ?_
    refine lv_imul hx hb dX9_remembers_82 ?_
    refine asi (z := nI (7 * p0)) (pk_mul _ _) ?_
    refine lv_iadd hx hb dX9_remembers_83 ?_
    refine asi (z := nI (95 + (7 * p0))) (nI_add _ _) ?_
    refine lv_iload_n hx hb dX9_remembers_84 rfl (lv_at hl 1 rfl) ?_
    refine lv_iconst (v := nI 1) hx hb dX9_remembers_85 (by decide) ?_
    refine lv_iadd hx hb dX9_remembers_86 ?_
    refine asi (z := nI ((oK σ p0) + 1)) (nI_add _ _) ?_
    refine va_iast hx hb hK hP hD hS 1 0 rfl rfl (vp_in_nI (by omega) (by omega)) dX9_remembers_87 (fun H locs hP hD hS => ?_)
    have ec : (nI (95 + (7 * p0))).toNatClampNeg = (95 + (7 * p0)) := nI_clamp (by omega)
    rw [ec] at hP hD
    clear ec
    have hP : gP Γ [(a 0, .inr (9, [.int (v 0), .ref (a 1), .ref (a 2), .int (v 1), .ref (a 3), .int (v 2), .int (v 3), .int (v 4), .ref (a 4), .int (v 5), .long hs])), (a 1, .inl (Γ.2.1, 130, .inl (upd (upd (g 0) (((95 + (7 * p0)) + 1) + (oK σ p0)) (nI x)) (95 + (7 * p0)) (nI ((oK σ p0) + 1))))), (a 2, .inl (Γ.2.1, 780, .inl (g 1))), (a 3, .inl (Γ.2.1, 60, .inl (g 2))), (a 4, .inl (Γ.2.1, 88, .inl (g 3)))] H := hP
    have hD : va_D A [(a 0, .inr (9, [.int (v 0), .ref (a 1), .ref (a 2), .int (v 1), .ref (a 3), .int (v 2), .int (v 3), .int (v 4), .ref (a 4), .int (v 5), .long hs])), (a 1, .inl (Γ.2.1, 130, .inl (upd (upd (g 0) (((95 + (7 * p0)) + 1) + (oK σ p0)) (nI x)) (95 + (7 * p0)) (nI ((oK σ p0) + 1))))), (a 2, .inl (Γ.2.1, 780, .inl (g 1))), (a 3, .inl (Γ.2.1, 60, .inl (g 2))), (a 4, .inl (Γ.2.1, 88, .inl (g 3)))] := hD
    exact W.vret hx hb hrt (fun t9 ht9 hW9 => ⟨⟨upd (upd (g 0) (((95 + (7 * p0)) + 1) + (oK σ p0)) (nI x)) (95 + (7 * p0)) (nI ((oK σ p0) + 1)), rfl, rem_MB hM (by omega), wd_end hK hP hD [0, 1, 2, 3, 4] (by decide) rfl t9 ht9 hW9⟩, hS.F ht9⟩) hS.2.2 dX9_remembers_88 hlk
  · have n_20 := (nI_eq (a := (oK σ p0)) (b := 6) (by omega) (by omega)).mp c_20
    refine lv_iconst (v := nI 0) hx hb dX9_remembers_23 (by decide) ?_
    have hP : gP Γ [(a 0, .inr (9, [.int (v 0), .ref (a 1), .ref (a 2), .int (v 1), .ref (a 3), .int (v 2), .int (v 3), .int (v 4), .ref (a 4), .int (v 5), .long hs])), (a 1, .inl (Γ.2.1, 130, .inl (shR (g 0) (95 + 7 * p0 + 1) 0))), (a 2, .inl (Γ.2.1, 780, .inl (g 1))), (a 3, .inl (Γ.2.1, 60, .inl (g 2))), (a 4, .inl (Γ.2.1, 88, .inl (g 3)))] s.heap := by rw [shR_0]; exact hP
    have hD : va_D A [(a 0, .inr (9, [.int (v 0), .ref (a 1), .ref (a 2), .int (v 1), .ref (a 3), .int (v 2), .int (v 3), .int (v 4), .ref (a 4), .int (v 5), .long hs])), (a 1, .inl (Γ.2.1, 130, .inl (shR (g 0) (95 + 7 * p0 + 1) 0))), (a 2, .inl (Γ.2.1, 780, .inl (g 1))), (a 3, .inl (Γ.2.1, 60, .inl (g 2))), (a 4, .inl (Γ.2.1, 88, .inl (g 3)))] := by rw [shR_0]; exact hD
    refine lv_istore (lv' := [(5, .int (nI 0)), (4, .int (nI ((95 + (7 * p0)) + 1))), (3, .int (nI (oK σ p0))), (0, .ref (a 0)), (1, .int (nI p0)), (2, .int (nI x))]) hx hb dX9_remembers_24 hl (by decide) rfl (fun ls hl => ?_)
    exact L_26 6 0 (by omega) (by omega) n_20 _ _ hP hD hS ls (lv_sub hl [3, 4, 5, 2, 1, 0] rfl)

abbrev rm_X9_forget : Room := { frames := 2, cells := 0, slots := 0, locals := 42 }
theorem k_X9_forget : Cal yX9_forget wsX9_forget rm_X9_forget cX9_forget 4 (some .int) 1 0 0 := ⟨⟨_, rfl⟩, rfl, rfl, by decide +kernel⟩
set_option maxHeartbeats 4000000 in
set_option maxRecDepth 100000 in
theorem m_X9_forget (l : Launch) (Γ : Gm) (sz : Nat) (a : Nat → Nat) (v : Nat → Int32) (hs : Int64) (g : Nat → Nat → Int32) (σ : Nat → Nat) (sc : Nat) (ss : Nat → Nat → Nat) (nb : Nat) (bb : Nat → Nat) (hX : MR σ sc ss nb bb v g) (ip : Int32) : MWi (S := WtM) l yX9_forget wsX9_forget rm_X9_forget Γ sz (wMd Γ a v hs g) [.ref (a 0), .int ip] (fun r u => MO (fgC ip) r (nI (oK σ ip.toNatClampNeg)) (MR (fgtS σ ip.toNatClampNeg) (svC sc) (svS sc ss σ) nb bb u.1 u.2.2) (MR σ sc ss nb bb u.1 u.2.2) (u.1 0)) (fun u => (wMd Γ a u.1 u.2.1 u.2.2)) 0 0 := by
  refine mW (cc := cX9_forget) (maxL := 4) (ret := (some .int)) (own := RX9) (by decide) rfl rfl (Nat.le_of_ble_eq_true rfl) ?_
  intro p e s m args below meth c S hrt hlk hin hsz hK hP hD hA hS ls hl
  subst hsz
  generalize hAe : va_A (wMd Γ a v hs g) s.heap.size = A at hD hA hS ⊢
  obtain ⟨hx, hb, hml, hown, hts⟩ := id S
  obtain ⟨hM, hI, hc6, h1, h2, hBR, hSR⟩ := id hX
  have hl : lv_has ls 4 [(0, .ref (a 0)), (1, .int ip)] := hl
  have L_30 : ∀ (fuel : Nat), ∀ (sv1 : Nat → Int32) (p0 : Nat) (k : Nat) (hip : ip = nI p0) (n_9 : inI ip (nI 0) (nI 4) = true) (hp : p0 < 5) (hSV : SR (svC sc) (svS sc ss σ) sv1) (hk : k ≤ 7) (hfk : 7 - k < fuel), ∀ (H : Heap) (locs : List Loc), gP Γ [(a 0, .inr (9, [.int (nI 0), .ref (a 1), .ref (a 2), .int (nI (svC sc)), .ref (a 3), .int (v 2), .int (v 3), .int (v 4), .ref (a 4), .int (v 5), .long hs])), (a 1, .inl (Γ.2.1, 130, .inl (zG (g 0) (95 + 7 * p0) k))), (a 2, .inl (Γ.2.1, 780, .inl sv1)), (a 3, .inl (Γ.2.1, 60, .inl (g 2))), (a 4, .inl (Γ.2.1, 88, .inl (g 3)))] H → va_D A [(a 0, .inr (9, [.int (nI 0), .ref (a 1), .ref (a 2), .int (nI (svC sc)), .ref (a 3), .int (v 2), .int (v 3), .int (v 4), .ref (a 4), .int (v 5), .long hs])), (a 1, .inl (Γ.2.1, 130, .inl (zG (g 0) (95 + 7 * p0) k))), (a 2, .inl (Γ.2.1, 780, .inl sv1)), (a 3, .inl (Γ.2.1, 60, .inl (g 2))), (a 4, .inl (Γ.2.1, 88, .inl (g 3)))] → va_S A s.heap H locs → ∀ ls : Array Slot, lv_has ls 4 [(0, .ref (a 0)), (1, .int (nI p0)), (2, .int (nI (oK σ p0))), (3, .int (nI k))] → W p l e rm_X9_forget s m args below meth c H locs 0 0 (MQ below (va_Qi (S := WtM) (fun r u => MO (fgC ip) r (nI (oK σ ip.toNatClampNeg)) (MR (fgtS σ ip.toNatClampNeg) (svC sc) (svS sc ss σ) nb bb u.1 u.2.2) (MR σ sc ss nb bb u.1 u.2.2) (u.1 0)) (fun u t9 => wd Γ A ((wMd Γ a u.1 u.2.1 u.2.2)) t9) A) args s 0 0 A) (F0 m 30 ls []) := by
    intro fuel
    induction fuel with
    | zero => intro sv1 p0 k hip n_9 hp hSV hk hfk; exact absurd hfk (by omega)
    | succ fuel ih_30 =>
      intro sv1 p0 k hip n_9 hp hSV hk hfk H locs hP hD hS ls hl
      refine lv_iload_n hx hb dX9_forget_30 rfl (lv_at hl 3 rfl) ?_
      refine lv_bipush (v := nI 7) hx hb dX9_forget_31 (by decide) ?_
      refine lv_icmp_ge (tgt := 57) hx hb dX9_forget_33 (by decide) (fun c_33 => ?_) (fun c_33 => ?_)
      · have n_33 := (nI_leI (a := 7) (b := k) (by omega) (by omega)).mp c_33
        rw [show k = 7 from by omega] at hP hD
        refine lv_iload_n hx hb dX9_forget_57 rfl (lv_at hl 2 rfl) ?_
        exact W.iret (v := nI (oK σ p0)) hx hb hrt (fun t9 ht9 hW9 => ⟨⟨_, (va_up (va_up v 0 (nI 0)) 1 (nI (svC sc)), hs, va_up (va_up g 0 (zG (g 0) (95 + 7 * p0) 7)) 1 sv1), rfl, MO.ok (by unfold fgC; rw [n_9]; rfl) rfl (by rw [hip, nI_clamp (by omega)]) (by rw [hip, nI_clamp (by omega)]; exact (MR.sv (zG_M hM) (fgt_I hI hp) rfl h2 hBR hSV)), wd_end hK hP hD [0, 1, 2, 3, 4] (by decide) rfl t9 ht9 hW9⟩, hS.F ht9⟩) hS.2.2 dX9_forget_58 hlk
      · have n_33 := (not_congr (nI_leI (a := 7) (b := k) (by omega) (by omega))).mp c_33
        refine lv_aload_n hx hb dX9_forget_36 rfl (lv_at hl 0 rfl) ?_
        refine va_get (D := Γ.1) (ci := 9) (v := .ref (a 1)) (C := RX9) (T := TX9) (N := 11) hx hb hts (by decide +kernel) hown hK hP 0 rfl rfl 1 (by decide) (hts (.fieldLink RX9 7 "RowVeilsModel" "s" "[I") (by decide +kernel)) (fun _ h9 => h9) rfl dX9_forget_37 ?_
        refine lv_bipush (v := nI 95) hx hb dX9_forget_40 (by decide) ?_
        refine lv_bipush (v := nI 7) hx hb dX9_forget_42 (by decide) ?_
        refine lv_iload_n hx hb dX9_forget_44 rfl (lv_at hl 1 rfl) ?_
        refine lv_imul hx hb dX9_forget_45 ?_
        refine asi (z := nI (7 * p0)) (pk_mul _ _) ?_
        refine lv_iadd hx hb dX9_forget_46 ?_
        refine asi (z := nI (95 + (7 * p0))) (nI_add _ _) ?_
        refine lv_iload_n hx hb dX9_forget_47 rfl (lv_at hl 3 rfl) ?_
        refine lv_iadd hx hb dX9_forget_48 ?_
        refine asi (z := nI ((95 + (7 * p0)) + k)) (nI_add _ _) ?_
        refine lv_iconst (v := nI 0) hx hb dX9_forget_49 (by decide) ?_
        refine va_iast hx hb hK hP hD hS 1 0 rfl rfl (vp_in_nI (by omega) (by omega)) dX9_forget_50 (fun H locs hP hD hS => ?_)
        have ec : (nI ((95 + (7 * p0)) + k)).toNatClampNeg = ((95 + (7 * p0)) + k) := nI_clamp (by omega)
        rw [ec] at hP hD
        clear ec
        have hP : gP Γ [(a 0, .inr (9, [.int (nI 0), .ref (a 1), .ref (a 2), .int (nI (svC sc)), .ref (a 3), .int (v 2), .int (v 3), .int (v 4), .ref (a 4), .int (v 5), .long hs])), (a 1, .inl (Γ.2.1, 130, .inl (upd (zG (g 0) (95 + 7 * p0) k) ((95 + (7 * p0)) + k) (nI 0)))), (a 2, .inl (Γ.2.1, 780, .inl sv1)), (a 3, .inl (Γ.2.1, 60, .inl (g 2))), (a 4, .inl (Γ.2.1, 88, .inl (g 3)))] H := hP
        have hD : va_D A [(a 0, .inr (9, [.int (nI 0), .ref (a 1), .ref (a 2), .int (nI (svC sc)), .ref (a 3), .int (v 2), .int (v 3), .int (v 4), .ref (a 4), .int (v 5), .long hs])), (a 1, .inl (Γ.2.1, 130, .inl (upd (zG (g 0) (95 + 7 * p0) k) ((95 + (7 * p0)) + k) (nI 0)))), (a 2, .inl (Γ.2.1, 780, .inl sv1)), (a 3, .inl (Γ.2.1, 60, .inl (g 2))), (a 4, .inl (Γ.2.1, 88, .inl (g 3)))] := hD
        have ef : upd (zG (g 0) (95 + 7 * p0) k) ((95 + (7 * p0)) + k) (nI 0) = zG (g 0) (95 + 7 * p0) (k + 1) := zG_s (g 0) (95 + 7 * p0) k
        rw [ef] at hP hD
        clear ef
        have hP : gP Γ [(a 0, .inr (9, [.int (nI 0), .ref (a 1), .ref (a 2), .int (nI (svC sc)), .ref (a 3), .int (v 2), .int (v 3), .int (v 4), .ref (a 4), .int (v 5), .long hs])), (a 1, .inl (Γ.2.1, 130, .inl (zG (g 0) (95 + 7 * p0) (k + 1)))), (a 2, .inl (Γ.2.1, 780, .inl sv1)), (a 3, .inl (Γ.2.1, 60, .inl (g 2))), (a 4, .inl (Γ.2.1, 88, .inl (g 3)))] H := hP
        have hD : va_D A [(a 0, .inr (9, [.int (nI 0), .ref (a 1), .ref (a 2), .int (nI (svC sc)), .ref (a 3), .int (v 2), .int (v 3), .int (v 4), .ref (a 4), .int (v 5), .long hs])), (a 1, .inl (Γ.2.1, 130, .inl (zG (g 0) (95 + 7 * p0) (k + 1)))), (a 2, .inl (Γ.2.1, 780, .inl sv1)), (a 3, .inl (Γ.2.1, 60, .inl (g 2))), (a 4, .inl (Γ.2.1, 88, .inl (g 3)))] := hD
        refine lv_iinc (v := nI (k + 1)) (lv' := [(3, .int (nI (k + 1))), (0, .ref (a 0)), (1, .int (nI p0)), (2, .int (nI (oK σ p0)))]) hx hb dX9_forget_51 hl (k := 3) rfl (nI_add _ _) (by decide) rfl (fun ls hl => ?_)
        refine lv_goto (tgt := 30) hx hb dX9_forget_54 (by decide) ?_
        exact ih_30 sv1 p0 (k + 1) hip n_9 hp hSV (by omega) (by omega) _ _ hP hD hS ls (lv_sub hl [1, 2, 3, 0] rfl)
  have hH : s.heap = s.heap := rfl
  refine lv_aload_n hx hb dX9_forget_0 rfl (lv_at hl 0 rfl) ?_
  refine lv_iconst (v := nI 0) hx hb dX9_forget_1 (by decide) ?_
  refine va_put (D := Γ.1) (ci := 9) (v := .int (nI 0)) (ty := .int) (C := RX9) (T := TX9) (N := 11) hx hb hts (by decide +kernel) tyX9 tyX9_ok nmX9 hown hK hP hD hS 0 rfl rfl 0 (by decide) (hts (.fieldLink RX9 22 "RowVeilsModel" "thrown" "I") (by decide +kernel)) (fun _ h9 => h9) rfl (by decide +kernel) rfl rfl (Nat.le_of_ble_eq_true rfl) dX9_forget_2 (fun H locs hP hD hS => ?_)
  have hP : gP Γ [(a 0, .inr (9, [.int (nI 0), .ref (a 1), .ref (a 2), .int (v 1), .ref (a 3), .int (v 2), .int (v 3), .int (v 4), .ref (a 4), .int (v 5), .long hs])), (a 1, .inl (Γ.2.1, 130, .inl (g 0))), (a 2, .inl (Γ.2.1, 780, .inl (g 1))), (a 3, .inl (Γ.2.1, 60, .inl (g 2))), (a 4, .inl (Γ.2.1, 88, .inl (g 3)))] H := hP
  have hD : va_D A [(a 0, .inr (9, [.int (nI 0), .ref (a 1), .ref (a 2), .int (v 1), .ref (a 3), .int (v 2), .int (v 3), .int (v 4), .ref (a 4), .int (v 5), .long hs])), (a 1, .inl (Γ.2.1, 130, .inl (g 0))), (a 2, .inl (Γ.2.1, 780, .inl (g 1))), (a 3, .inl (Γ.2.1, 60, .inl (g 2))), (a 4, .inl (Γ.2.1, 88, .inl (g 3)))] := hD
  refine lv_iload_n hx hb dX9_forget_5 rfl (lv_at hl 1 rfl) ?_
  refine cSi (As := [.int ip]) (rest := []) (m_X9_isPerson l ip) S k_X9_isPerson gX9_forget_X9_isPerson ⟨Nat.le_of_ble_eq_true rfl, Nat.le_of_ble_eq_true rfl⟩ rfl hl.1 (Nat.le_of_ble_eq_true rfl) rfl dX9_forget_6 ⟨Nat.le_of_ble_eq_true rfl, Nat.le_of_ble_eq_true rfl⟩ (fun r hr => ?_)
  subst hr
  refine lv_if_ne (tgt := 18) hx hb dX9_forget_9 (by decide) (fun c_9 => ?_) (fun c_9 => ?_)
  · have n_9 := bI_nz.mp c_9
    obtain ⟨p0, h_p0, rfl⟩ := in_lt (by decide) n_9
    have hp : p0 < 5 := by omega
    refine lv_aload_n hx hb dX9_forget_18 rfl (lv_at hl 0 rfl) ?_
    refine cWv (As := []) (rest := []) (wr := []) (m_X9_saves l Γ _ a (va_up v 0 (nI 0)) hs g σ sc ss h1 hc6 hM hI hSR) S k_X9_saves gX9_forget_X9_saves rfl ⟨Nat.le_of_ble_eq_true rfl, Nat.le_of_ble_eq_true rfl⟩ hK hP hD hS hA [0, 1, 2, 3, 4] [] rfl rfl (by decide) (by decide) (by decide) 0 (ci := 9) rfl rfl rfl rfl hl.1 (Nat.le_of_ble_eq_true rfl) rfl dX9_forget_19 ⟨Nat.le_of_ble_eq_true rfl, Nat.le_of_ble_eq_true rfl⟩ (fun u H locs hr hP hD hS => ?_)
    obtain ⟨sv1, e_sv1⟩ : ∃ x, x = u := ⟨u, rfl⟩
    subst e_sv1
    have hP : gP Γ [(a 0, .inr (9, [.int (nI 0), .ref (a 1), .ref (a 2), .int (nI (svC sc)), .ref (a 3), .int (v 2), .int (v 3), .int (v 4), .ref (a 4), .int (v 5), .long hs])), (a 1, .inl (Γ.2.1, 130, .inl (g 0))), (a 2, .inl (Γ.2.1, 780, .inl sv1)), (a 3, .inl (Γ.2.1, 60, .inl (g 2))), (a 4, .inl (Γ.2.1, 88, .inl (g 3)))] H := hP
    have hD : va_D A [(a 0, .inr (9, [.int (nI 0), .ref (a 1), .ref (a 2), .int (nI (svC sc)), .ref (a 3), .int (v 2), .int (v 3), .int (v 4), .ref (a 4), .int (v 5), .long hs])), (a 1, .inl (Γ.2.1, 130, .inl (g 0))), (a 2, .inl (Γ.2.1, 780, .inl sv1)), (a 3, .inl (Γ.2.1, 60, .inl (g 2))), (a 4, .inl (Γ.2.1, 88, .inl (g 3)))] := hD
    have hSV := hr
    refine lv_aload_n hx hb dX9_forget_22 rfl (lv_at hl 0 rfl) ?_
    refine lv_iload_n hx hb dX9_forget_23 rfl (lv_at hl 1 rfl) ?_
    refine cRi (As := [.int (nI p0)]) (rest := []) (m_X9_kept l Γ a (va_up (va_up v 0 (nI 0)) 1 (nI (svC sc))) hs (va_up g 1 sv1) σ hM hI p0 hp) S k_X9_kept gX9_forget_X9_kept rfl ⟨Nat.le_of_ble_eq_true rfl, Nat.le_of_ble_eq_true rfl⟩ hK hP [0, 1, 2, 3, 4] rfl 0 (ci := 9) rfl rfl rfl rfl hl.1 (Nat.le_of_ble_eq_true rfl) rfl dX9_forget_24 ⟨Nat.le_of_ble_eq_true rfl, Nat.le_of_ble_eq_true rfl⟩ (fun r hr => ?_)
    subst hr
    refine lv_istore_n (lv' := [(2, .int (nI (oK σ p0))), (0, .ref (a 0)), (1, .int (nI p0))]) hx hb dX9_forget_27 rfl hl (by decide) rfl (fun ls hl => ?_)
    have hP : gP Γ [(a 0, .inr (9, [.int (nI 0), .ref (a 1), .ref (a 2), .int (nI (svC sc)), .ref (a 3), .int (v 2), .int (v 3), .int (v 4), .ref (a 4), .int (v 5), .long hs])), (a 1, .inl (Γ.2.1, 130, .inl (zG (g 0) (95 + 7 * p0) 0))), (a 2, .inl (Γ.2.1, 780, .inl sv1)), (a 3, .inl (Γ.2.1, 60, .inl (g 2))), (a 4, .inl (Γ.2.1, 88, .inl (g 3)))] H := by rw [zG_0]; exact hP
    have hD : va_D A [(a 0, .inr (9, [.int (nI 0), .ref (a 1), .ref (a 2), .int (nI (svC sc)), .ref (a 3), .int (v 2), .int (v 3), .int (v 4), .ref (a 4), .int (v 5), .long hs])), (a 1, .inl (Γ.2.1, 130, .inl (zG (g 0) (95 + 7 * p0) 0))), (a 2, .inl (Γ.2.1, 780, .inl sv1)), (a 3, .inl (Γ.2.1, 60, .inl (g 2))), (a 4, .inl (Γ.2.1, 88, .inl (g 3)))] := by rw [zG_0]; exact hD
    refine lv_iconst (v := nI 0) hx hb dX9_forget_28 (by decide) ?_
    refine lv_istore_n (lv' := [(3, .int (nI 0)), (2, .int (nI (oK σ p0))), (0, .ref (a 0)), (1, .int (nI p0))]) hx hb dX9_forget_29 rfl hl (by decide) rfl (fun ls hl => ?_)
    exact L_30 8 sv1 p0 0 rfl n_9 hp hSV (by omega) (by omega) _ _ hP hD hS ls (lv_sub hl [2, 3, 1, 0] rfl)
  · have n_9 := bI_z.mp c_9
    refine lv_aload_n hx hb dX9_forget_12 rfl (lv_at hl 0 rfl) ?_
    refine lv_iconst (v := nI 1) hx hb dX9_forget_13 (by decide) ?_
    refine cWi (As := [.int (nI 1)]) (rest := []) (wr := []) (m_X9_fails l Γ _ a (va_up v 0 (nI 0)) hs g (nI 1)) S k_X9_fails gX9_forget_X9_fails rfl ⟨Nat.le_of_ble_eq_true rfl, Nat.le_of_ble_eq_true rfl⟩ hK hP hD hS hA [0, 1, 2, 3, 4] [] rfl rfl (by decide) (by decide) (by decide) 0 (ci := 9) rfl rfl rfl rfl hl.1 (Nat.le_of_ble_eq_true rfl) rfl dX9_forget_14 ⟨Nat.le_of_ble_eq_true rfl, Nat.le_of_ble_eq_true rfl⟩ (fun r u H locs hr hP hD hS => ?_)
    have hP : gP Γ [(a 0, .inr (9, [.int (nI 1), .ref (a 1), .ref (a 2), .int (v 1), .ref (a 3), .int (v 2), .int (v 3), .int (v 4), .ref (a 4), .int (v 5), .long hs])), (a 1, .inl (Γ.2.1, 130, .inl (g 0))), (a 2, .inl (Γ.2.1, 780, .inl (g 1))), (a 3, .inl (Γ.2.1, 60, .inl (g 2))), (a 4, .inl (Γ.2.1, 88, .inl (g 3)))] H := hP
    have hD : va_D A [(a 0, .inr (9, [.int (nI 1), .ref (a 1), .ref (a 2), .int (v 1), .ref (a 3), .int (v 2), .int (v 3), .int (v 4), .ref (a 4), .int (v 5), .long hs])), (a 1, .inl (Γ.2.1, 130, .inl (g 0))), (a 2, .inl (Γ.2.1, 780, .inl (g 1))), (a 3, .inl (Γ.2.1, 60, .inl (g 2))), (a 4, .inl (Γ.2.1, 88, .inl (g 3)))] := hD
    subst hr
    exact W.iret (v := nI 0) hx hb hrt (fun t9 ht9 hW9 => ⟨⟨_, (va_up v 0 (nI 1), hs, g), rfl, MO.bad (k := 0) (by unfold fgC; first | (rw [n_9]; rfl)) rfl rfl (hX.th rfl rfl), wd_end hK hP hD [0, 1, 2, 3, 4] (by decide) rfl t9 ht9 hW9⟩, hS.F ht9⟩) hS.2.2 dX9_forget_17 hlk

abbrev rm_X9_undo : Room := { frames := 1, cells := 0, slots := 0, locals := 21 }
theorem k_X9_undo : Cal yX9_undo wsX9_undo rm_X9_undo cX9_undo 2 (some .int) 0 0 0 := ⟨⟨_, rfl⟩, rfl, rfl, by decide +kernel⟩
set_option maxHeartbeats 4000000 in
set_option maxRecDepth 100000 in
theorem m_X9_undo (l : Launch) (Γ : Gm) (sz : Nat) (a : Nat → Nat) (v : Nat → Int32) (hs : Int64) (g : Nat → Nat → Int32) (σ : Nat → Nat) (sc : Nat) (ss : Nat → Nat → Nat) (nb : Nat) (bb : Nat → Nat) (hX : MR σ sc ss nb bb v g)  : MWi (S := WtM) l yX9_undo wsX9_undo rm_X9_undo Γ sz (wMd Γ a v hs g) [.ref (a 0)] (fun r u => MO (unC sc) r (nI (sc - 1)) (MR (ss (sc - 1)) (sc - 1) ss nb bb u.1 u.2.2) (MR σ sc ss nb bb u.1 u.2.2) (u.1 0)) (fun u => (wMd Γ a u.1 u.2.1 u.2.2)) 0 0 := by
  refine mW (cc := cX9_undo) (maxL := 2) (ret := (some .int)) (own := RX9) (by decide) rfl rfl (Nat.le_of_ble_eq_true rfl) ?_
  intro p e s m args below meth c S hrt hlk hin hsz hK hP hD hA hS ls hl
  subst hsz
  generalize hAe : va_A (wMd Γ a v hs g) s.heap.size = A at hD hA hS ⊢
  obtain ⟨hx, hb, hml, hown, hts⟩ := id S
  obtain ⟨hM, hI, hc6, h1, h2, hBR, hSR⟩ := id hX
  have hl : lv_has ls 2 [(0, .ref (a 0))] := hl
  have L_30 : ∀ (fuel : Nat), ∀ (k : Nat) (hk : k ≤ 130) (hfk : 130 - k < fuel) (n_9 : ¬ sc = 0), ∀ (H : Heap) (locs : List Loc), gP Γ [(a 0, .inr (9, [.int (nI 0), .ref (a 1), .ref (a 2), .int (nI (sc - 1)), .ref (a 3), .int (v 2), .int (v 3), .int (v 4), .ref (a 4), .int (v 5), .long hs])), (a 1, .inl (Γ.2.1, 130, .inl (unG (g 0) (g 1) (sc - 1) k))), (a 2, .inl (Γ.2.1, 780, .inl (g 1))), (a 3, .inl (Γ.2.1, 60, .inl (g 2))), (a 4, .inl (Γ.2.1, 88, .inl (g 3)))] H → va_D A [(a 0, .inr (9, [.int (nI 0), .ref (a 1), .ref (a 2), .int (nI (sc - 1)), .ref (a 3), .int (v 2), .int (v 3), .int (v 4), .ref (a 4), .int (v 5), .long hs])), (a 1, .inl (Γ.2.1, 130, .inl (unG (g 0) (g 1) (sc - 1) k))), (a 2, .inl (Γ.2.1, 780, .inl (g 1))), (a 3, .inl (Γ.2.1, 60, .inl (g 2))), (a 4, .inl (Γ.2.1, 88, .inl (g 3)))] → va_S A s.heap H locs → ∀ ls : Array Slot, lv_has ls 2 [(0, .ref (a 0)), (1, .int (nI k))] → W p l e rm_X9_undo s m args below meth c H locs 0 0 (MQ below (va_Qi (S := WtM) (fun r u => MO (unC sc) r (nI (sc - 1)) (MR (ss (sc - 1)) (sc - 1) ss nb bb u.1 u.2.2) (MR σ sc ss nb bb u.1 u.2.2) (u.1 0)) (fun u t9 => wd Γ A ((wMd Γ a u.1 u.2.1 u.2.2)) t9) A) args s 0 0 A) (F0 m 30 ls []) := by
    intro fuel
    induction fuel with
    | zero => intro k hk hfk n_9; exact absurd hfk (by omega)
    | succ fuel ih_30 =>
      intro k hk hfk n_9 H locs hP hD hS ls hl
      refine lv_iload_n hx hb dX9_undo_30 rfl (lv_at hl 1 rfl) ?_
      refine lv_sipush (v := nI 130) hx hb dX9_undo_31 (by decide) ?_
      refine lv_icmp_ge (tgt := 64) hx hb dX9_undo_34 (by decide) (fun c_34 => ?_) (fun c_34 => ?_)
      · have n_34 := (nI_leI (a := 130) (b := k) (by omega) (by omega)).mp c_34
        rw [show k = 130 from by omega] at hP hD
        refine lv_aload_n hx hb dX9_undo_64 rfl (lv_at hl 0 rfl) ?_
        refine va_get (D := Γ.1) (ci := 9) (v := .int (nI (sc - 1))) (C := RX9) (T := TX9) (N := 11) hx hb hts (by decide +kernel) hown hK hP 0 rfl rfl 3 (by decide) (hts (.fieldLink RX9 34 "RowVeilsModel" "savedMany" "I") (by decide +kernel)) (fun _ h9 => h9) rfl dX9_undo_65 ?_
        exact W.iret (v := nI (sc - 1)) hx hb hrt (fun t9 ht9 hW9 => ⟨⟨_, (va_up (va_up v 0 (nI 0)) 1 (nI (sc - 1)), hs, va_up g 0 (unG (g 0) (g 1) (sc - 1) 130)), rfl, MO.ok (by unfold unC; rw [if_neg n_9]) rfl rfl ⟨unG_M hSR (by omega), (hSR (sc - 1) (by omega)).2, by omega, rfl, h2, hBR, fun j hj => hSR j (by omega)⟩, wd_end hK hP hD [0, 1, 2, 3, 4] (by decide) rfl t9 ht9 hW9⟩, hS.F ht9⟩) hS.2.2 dX9_undo_68 hlk
      · have n_34 := (not_congr (nI_leI (a := 130) (b := k) (by omega) (by omega))).mp c_34
        refine lv_aload_n hx hb dX9_undo_37 rfl (lv_at hl 0 rfl) ?_
        refine va_get (D := Γ.1) (ci := 9) (v := .ref (a 1)) (C := RX9) (T := TX9) (N := 11) hx hb hts (by decide +kernel) hown hK hP 0 rfl rfl 1 (by decide) (hts (.fieldLink RX9 7 "RowVeilsModel" "s" "[I") (by decide +kernel)) (fun _ h9 => h9) rfl dX9_undo_38 ?_
        refine lv_iload_n hx hb dX9_undo_41 rfl (lv_at hl 1 rfl) ?_
        refine lv_aload_n hx hb dX9_undo_42 rfl (lv_at hl 0 rfl) ?_
        refine va_get (D := Γ.1) (ci := 9) (v := .ref (a 2)) (C := RX9) (T := TX9) (N := 11) hx hb hts (by decide +kernel) hown hK hP 0 rfl rfl 2 (by decide) (hts (.fieldLink RX9 13 "RowVeilsModel" "saved" "[I") (by decide +kernel)) (fun _ h9 => h9) rfl dX9_undo_43 ?_
        refine lv_sipush (v := nI 130) hx hb dX9_undo_46 (by decide) ?_
        refine lv_aload_n hx hb dX9_undo_49 rfl (lv_at hl 0 rfl) ?_
        refine va_get (D := Γ.1) (ci := 9) (v := .int (nI (sc - 1))) (C := RX9) (T := TX9) (N := 11) hx hb hts (by decide +kernel) hown hK hP 0 rfl rfl 3 (by decide) (hts (.fieldLink RX9 34 "RowVeilsModel" "savedMany" "I") (by decide +kernel)) (fun _ h9 => h9) rfl dX9_undo_50 ?_
        refine lv_imul hx hb dX9_undo_53 ?_
        refine asi (z := nI (130 * (sc - 1))) (pk_mul _ _) ?_
        refine lv_iload_n hx hb dX9_undo_54 rfl (lv_at hl 1 rfl) ?_
        refine lv_iadd hx hb dX9_undo_55 ?_
        refine asi (z := nI ((130 * (sc - 1)) + k)) (nI_add _ _) ?_
        refine va_iald hx hb hK hP 2 0 rfl rfl (vp_in_nI (by omega) (by omega)) dX9_undo_56 ?_
        refine asi (z := (g 1) ((130 * (sc - 1)) + k)) (congrArg _ (nI_clamp (by omega))) ?_
        refine va_iast hx hb hK hP hD hS 1 0 rfl rfl (vp_in_nI (by omega) (by omega)) dX9_undo_57 (fun H locs hP hD hS => ?_)
        have ec : (nI k).toNatClampNeg = k := nI_clamp (by omega)
        rw [ec] at hP hD
        clear ec
        have hP : gP Γ [(a 0, .inr (9, [.int (nI 0), .ref (a 1), .ref (a 2), .int (nI (sc - 1)), .ref (a 3), .int (v 2), .int (v 3), .int (v 4), .ref (a 4), .int (v 5), .long hs])), (a 1, .inl (Γ.2.1, 130, .inl (upd (unG (g 0) (g 1) (sc - 1) k) k ((g 1) ((130 * (sc - 1)) + k))))), (a 2, .inl (Γ.2.1, 780, .inl (g 1))), (a 3, .inl (Γ.2.1, 60, .inl (g 2))), (a 4, .inl (Γ.2.1, 88, .inl (g 3)))] H := hP
        have hD : va_D A [(a 0, .inr (9, [.int (nI 0), .ref (a 1), .ref (a 2), .int (nI (sc - 1)), .ref (a 3), .int (v 2), .int (v 3), .int (v 4), .ref (a 4), .int (v 5), .long hs])), (a 1, .inl (Γ.2.1, 130, .inl (upd (unG (g 0) (g 1) (sc - 1) k) k ((g 1) ((130 * (sc - 1)) + k))))), (a 2, .inl (Γ.2.1, 780, .inl (g 1))), (a 3, .inl (Γ.2.1, 60, .inl (g 2))), (a 4, .inl (Γ.2.1, 88, .inl (g 3)))] := hD
        have ef : upd (unG (g 0) (g 1) (sc - 1) k) k ((g 1) ((130 * (sc - 1)) + k)) = unG (g 0) (g 1) (sc - 1) (k + 1) := unG_s (g 0) (g 1) (sc - 1) k
        rw [ef] at hP hD
        clear ef
        have hP : gP Γ [(a 0, .inr (9, [.int (nI 0), .ref (a 1), .ref (a 2), .int (nI (sc - 1)), .ref (a 3), .int (v 2), .int (v 3), .int (v 4), .ref (a 4), .int (v 5), .long hs])), (a 1, .inl (Γ.2.1, 130, .inl (unG (g 0) (g 1) (sc - 1) (k + 1)))), (a 2, .inl (Γ.2.1, 780, .inl (g 1))), (a 3, .inl (Γ.2.1, 60, .inl (g 2))), (a 4, .inl (Γ.2.1, 88, .inl (g 3)))] H := hP
        have hD : va_D A [(a 0, .inr (9, [.int (nI 0), .ref (a 1), .ref (a 2), .int (nI (sc - 1)), .ref (a 3), .int (v 2), .int (v 3), .int (v 4), .ref (a 4), .int (v 5), .long hs])), (a 1, .inl (Γ.2.1, 130, .inl (unG (g 0) (g 1) (sc - 1) (k + 1)))), (a 2, .inl (Γ.2.1, 780, .inl (g 1))), (a 3, .inl (Γ.2.1, 60, .inl (g 2))), (a 4, .inl (Γ.2.1, 88, .inl (g 3)))] := hD
        refine lv_iinc (v := nI (k + 1)) (lv' := [(1, .int (nI (k + 1))), (0, .ref (a 0))]) hx hb dX9_undo_58 hl (k := 1) rfl (nI_add _ _) (by decide) rfl (fun ls hl => ?_)
        refine lv_goto (tgt := 30) hx hb dX9_undo_61 (by decide) ?_
        exact ih_30 (k + 1) (by omega) (by omega) n_9 _ _ hP hD hS ls (lv_sub hl [1, 0] rfl)
  have hH : s.heap = s.heap := rfl
  refine lv_aload_n hx hb dX9_undo_0 rfl (lv_at hl 0 rfl) ?_
  refine lv_iconst (v := nI 0) hx hb dX9_undo_1 (by decide) ?_
  refine va_put (D := Γ.1) (ci := 9) (v := .int (nI 0)) (ty := .int) (C := RX9) (T := TX9) (N := 11) hx hb hts (by decide +kernel) tyX9 tyX9_ok nmX9 hown hK hP hD hS 0 rfl rfl 0 (by decide) (hts (.fieldLink RX9 22 "RowVeilsModel" "thrown" "I") (by decide +kernel)) (fun _ h9 => h9) rfl (by decide +kernel) rfl rfl (Nat.le_of_ble_eq_true rfl) dX9_undo_2 (fun H locs hP hD hS => ?_)
  have hP : gP Γ [(a 0, .inr (9, [.int (nI 0), .ref (a 1), .ref (a 2), .int (v 1), .ref (a 3), .int (v 2), .int (v 3), .int (v 4), .ref (a 4), .int (v 5), .long hs])), (a 1, .inl (Γ.2.1, 130, .inl (g 0))), (a 2, .inl (Γ.2.1, 780, .inl (g 1))), (a 3, .inl (Γ.2.1, 60, .inl (g 2))), (a 4, .inl (Γ.2.1, 88, .inl (g 3)))] H := hP
  have hD : va_D A [(a 0, .inr (9, [.int (nI 0), .ref (a 1), .ref (a 2), .int (v 1), .ref (a 3), .int (v 2), .int (v 3), .int (v 4), .ref (a 4), .int (v 5), .long hs])), (a 1, .inl (Γ.2.1, 130, .inl (g 0))), (a 2, .inl (Γ.2.1, 780, .inl (g 1))), (a 3, .inl (Γ.2.1, 60, .inl (g 2))), (a 4, .inl (Γ.2.1, 88, .inl (g 3)))] := hD
  refine lv_aload_n hx hb dX9_undo_5 rfl (lv_at hl 0 rfl) ?_
  refine va_get (D := Γ.1) (ci := 9) (v := .int (v 1)) (C := RX9) (T := TX9) (N := 11) hx hb hts (by decide +kernel) hown hK hP 0 rfl rfl 3 (by decide) (hts (.fieldLink RX9 34 "RowVeilsModel" "savedMany" "I") (by decide +kernel)) (fun _ h9 => h9) rfl dX9_undo_6 ?_
  refine asi (z := nI sc) (h1) ?_
  refine lv_if_ne (tgt := 18) hx hb dX9_undo_9 (by decide) (fun c_9 => ?_) (fun c_9 => ?_)
  · have n_9 := (not_congr (nI_eq (a := sc) (b := 0) (by omega) (by omega))).mp c_9
    refine lv_aload_n hx hb dX9_undo_18 rfl (lv_at hl 0 rfl) ?_
    refine lv_dup hx hb dX9_undo_19 rfl ?_
    refine va_get (D := Γ.1) (ci := 9) (v := .int (v 1)) (C := RX9) (T := TX9) (N := 11) hx hb hts (by decide +kernel) hown hK hP 0 rfl rfl 3 (by decide) (hts (.fieldLink RX9 34 "RowVeilsModel" "savedMany" "I") (by decide +kernel)) (fun _ h9 => h9) rfl dX9_undo_20 ?_
    refine asi (z := nI sc) (h1) ?_
    refine lv_iconst (v := nI 1) hx hb dX9_undo_23 (by decide) ?_
    refine lv_isub hx hb dX9_undo_24 ?_
    refine asi (z := nI (sc - 1)) (pk_sub (by omega)) ?_
    refine va_put (D := Γ.1) (ci := 9) (v := .int (nI (sc - 1))) (ty := .int) (C := RX9) (T := TX9) (N := 11) hx hb hts (by decide +kernel) tyX9 tyX9_ok nmX9 hown hK hP hD hS 0 rfl rfl 3 (by decide) (hts (.fieldLink RX9 34 "RowVeilsModel" "savedMany" "I") (by decide +kernel)) (fun _ h9 => h9) rfl (by decide +kernel) rfl rfl (Nat.le_of_ble_eq_true rfl) dX9_undo_25 (fun H locs hP hD hS => ?_)
    have hP : gP Γ [(a 0, .inr (9, [.int (nI 0), .ref (a 1), .ref (a 2), .int (nI (sc - 1)), .ref (a 3), .int (v 2), .int (v 3), .int (v 4), .ref (a 4), .int (v 5), .long hs])), (a 1, .inl (Γ.2.1, 130, .inl (g 0))), (a 2, .inl (Γ.2.1, 780, .inl (g 1))), (a 3, .inl (Γ.2.1, 60, .inl (g 2))), (a 4, .inl (Γ.2.1, 88, .inl (g 3)))] H := hP
    have hD : va_D A [(a 0, .inr (9, [.int (nI 0), .ref (a 1), .ref (a 2), .int (nI (sc - 1)), .ref (a 3), .int (v 2), .int (v 3), .int (v 4), .ref (a 4), .int (v 5), .long hs])), (a 1, .inl (Γ.2.1, 130, .inl (g 0))), (a 2, .inl (Γ.2.1, 780, .inl (g 1))), (a 3, .inl (Γ.2.1, 60, .inl (g 2))), (a 4, .inl (Γ.2.1, 88, .inl (g 3)))] := hD
    have hP : gP Γ [(a 0, .inr (9, [.int (nI 0), .ref (a 1), .ref (a 2), .int (nI (sc - 1)), .ref (a 3), .int (v 2), .int (v 3), .int (v 4), .ref (a 4), .int (v 5), .long hs])), (a 1, .inl (Γ.2.1, 130, .inl (unG (g 0) (g 1) (sc - 1) 0))), (a 2, .inl (Γ.2.1, 780, .inl (g 1))), (a 3, .inl (Γ.2.1, 60, .inl (g 2))), (a 4, .inl (Γ.2.1, 88, .inl (g 3)))] H := by rw [unG_0]; exact hP
    have hD : va_D A [(a 0, .inr (9, [.int (nI 0), .ref (a 1), .ref (a 2), .int (nI (sc - 1)), .ref (a 3), .int (v 2), .int (v 3), .int (v 4), .ref (a 4), .int (v 5), .long hs])), (a 1, .inl (Γ.2.1, 130, .inl (unG (g 0) (g 1) (sc - 1) 0))), (a 2, .inl (Γ.2.1, 780, .inl (g 1))), (a 3, .inl (Γ.2.1, 60, .inl (g 2))), (a 4, .inl (Γ.2.1, 88, .inl (g 3)))] := by rw [unG_0]; exact hD
    refine lv_iconst (v := nI 0) hx hb dX9_undo_28 (by decide) ?_
    refine lv_istore_n (lv' := [(1, .int (nI 0)), (0, .ref (a 0))]) hx hb dX9_undo_29 rfl hl (by decide) rfl (fun ls hl => ?_)
    exact L_30 131 0 (by omega) (by omega) n_9 _ _ hP hD hS ls (lv_sub hl [1, 0] rfl)
  · have n_9 := (nI_eq (a := sc) (b := 0) (by omega) (by omega)).mp c_9
    refine lv_aload_n hx hb dX9_undo_12 rfl (lv_at hl 0 rfl) ?_
    refine lv_iconst (v := nI 1) hx hb dX9_undo_13 (by decide) ?_
    refine cWi (As := [.int (nI 1)]) (rest := []) (wr := []) (m_X9_fails l Γ _ a (va_up v 0 (nI 0)) hs g (nI 1)) S k_X9_fails gX9_undo_X9_fails rfl ⟨Nat.le_of_ble_eq_true rfl, Nat.le_of_ble_eq_true rfl⟩ hK hP hD hS hA [0, 1, 2, 3, 4] [] rfl rfl (by decide) (by decide) (by decide) 0 (ci := 9) rfl rfl rfl rfl hl.1 (Nat.le_of_ble_eq_true rfl) rfl dX9_undo_14 ⟨Nat.le_of_ble_eq_true rfl, Nat.le_of_ble_eq_true rfl⟩ (fun r u H locs hr hP hD hS => ?_)
    have hP : gP Γ [(a 0, .inr (9, [.int (nI 1), .ref (a 1), .ref (a 2), .int (v 1), .ref (a 3), .int (v 2), .int (v 3), .int (v 4), .ref (a 4), .int (v 5), .long hs])), (a 1, .inl (Γ.2.1, 130, .inl (g 0))), (a 2, .inl (Γ.2.1, 780, .inl (g 1))), (a 3, .inl (Γ.2.1, 60, .inl (g 2))), (a 4, .inl (Γ.2.1, 88, .inl (g 3)))] H := hP
    have hD : va_D A [(a 0, .inr (9, [.int (nI 1), .ref (a 1), .ref (a 2), .int (v 1), .ref (a 3), .int (v 2), .int (v 3), .int (v 4), .ref (a 4), .int (v 5), .long hs])), (a 1, .inl (Γ.2.1, 130, .inl (g 0))), (a 2, .inl (Γ.2.1, 780, .inl (g 1))), (a 3, .inl (Γ.2.1, 60, .inl (g 2))), (a 4, .inl (Γ.2.1, 88, .inl (g 3)))] := hD
    subst hr
    exact W.iret (v := nI 0) hx hb hrt (fun t9 ht9 hW9 => ⟨⟨_, (va_up v 0 (nI 1), hs, g), rfl, MO.bad (k := 0) (by unfold unC; rw [if_pos n_9]) rfl rfl (hX.th rfl rfl), wd_end hK hP hD [0, 1, 2, 3, 4] (by decide) rfl t9 ht9 hW9⟩, hS.F ht9⟩) hS.2.2 dX9_undo_17 hlk

abbrev rm_X9_askSum : Room := { frames := 7, cells := 0, slots := 0, locals := 162 }
theorem k_X9_askSum : Cal yX9_askSum wsX9_askSum rm_X9_askSum cX9_askSum 6 (some .int) 4 0 0 := ⟨⟨_, rfl⟩, rfl, rfl, by decide +kernel⟩
set_option maxHeartbeats 4000000 in
set_option maxRecDepth 100000 in
theorem m_X9_askSum (l : Launch) (Γ : Gm) (sz : Nat) (a : Nat → Nat) (v : Nat → Int32) (hs : Int64) (g : Nat → Nat → Int32) (σ : Nat → Nat) (sc : Nat) (ss : Nat → Nat → Nat) (nb : Nat) (bb : Nat → Nat) (hX : MR σ sc ss nb bb v g) (ip ipl il ih : Int32) : MWi (S := WtM) l yX9_askSum wsX9_askSum rm_X9_askSum Γ sz (wMd Γ a v hs g) [.ref (a 0), .int ip, .int ipl, .int il, .int ih] (fun r u => MO (qCode ip ipl il ih) r (sAns σ (seenQ σ ip.toNatClampNeg ipl il.toNatClampNeg ih.toNatClampNeg)) (MR (asmS σ ip.toNatClampNeg ipl il.toNatClampNeg ih.toNatClampNeg) (svC sc) (svS sc ss σ) nb bb u.1 u.2.2) (MR σ sc ss nb bb u.1 u.2.2) (u.1 0)) (fun u => (wMd Γ a u.1 u.2.1 u.2.2)) 0 0 := by
  refine mW (cc := cX9_askSum) (maxL := 6) (ret := (some .int)) (own := RX9) (by decide) rfl rfl (Nat.le_of_ble_eq_true rfl) ?_
  intro p e s m args below meth c S hrt hlk hin hsz hK hP hD hA hS ls hl
  subst hsz
  generalize hAe : va_A (wMd Γ a v hs g) s.heap.size = A at hD hA hS ⊢
  obtain ⟨hx, hb, hml, hown, hts⟩ := id S
  obtain ⟨hM, hI, hc6, h1, h2, hBR, hSR⟩ := id hX
  have hl : lv_has ls 6 [(0, .ref (a 0)), (1, .int ip), (2, .int ipl), (3, .int il), (4, .int ih)] := hl
  have hH : s.heap = s.heap := rfl
  refine lv_aload_n hx hb dX9_askSum_0 rfl (lv_at hl 0 rfl) ?_
  refine lv_aload_n hx hb dX9_askSum_1 rfl (lv_at hl 0 rfl) ?_
  refine lv_iload_n hx hb dX9_askSum_2 rfl (lv_at hl 1 rfl) ?_
  refine lv_iload_n hx hb dX9_askSum_3 rfl (lv_at hl 2 rfl) ?_
  refine lv_iload_n hx hb dX9_askSum_4 rfl (lv_at hl 3 rfl) ?_
  refine lv_iload hx hb dX9_askSum_5 (lv_at hl 4 rfl) ?_
  refine cRi (As := [.int ip, .int ipl, .int il, .int ih]) (rest := [.ref (a 0)]) (m_X9_refuses l Γ a v hs g ip ipl il ih) S k_X9_refuses gX9_askSum_X9_refuses rfl ⟨Nat.le_of_ble_eq_true rfl, Nat.le_of_ble_eq_true rfl⟩ hK hP [0, 1, 2, 3, 4] rfl 0 (ci := 9) rfl rfl rfl rfl hl.1 (Nat.le_of_ble_eq_true rfl) rfl dX9_askSum_7 ⟨Nat.le_of_ble_eq_true rfl, Nat.le_of_ble_eq_true rfl⟩ (fun r hr => ?_)
  subst hr
  refine va_put (D := Γ.1) (ci := 9) (v := .int (nI (qCode ip ipl il ih))) (ty := .int) (C := RX9) (T := TX9) (N := 11) hx hb hts (by decide +kernel) tyX9 tyX9_ok nmX9 hown hK hP hD hS 0 rfl rfl 0 (by decide) (hts (.fieldLink RX9 22 "RowVeilsModel" "thrown" "I") (by decide +kernel)) (fun _ h9 => h9) rfl (by decide +kernel) rfl rfl (Nat.le_of_ble_eq_true rfl) dX9_askSum_10 (fun H locs hP hD hS => ?_)
  have hP : gP Γ [(a 0, .inr (9, [.int (nI (qCode ip ipl il ih)), .ref (a 1), .ref (a 2), .int (v 1), .ref (a 3), .int (v 2), .int (v 3), .int (v 4), .ref (a 4), .int (v 5), .long hs])), (a 1, .inl (Γ.2.1, 130, .inl (g 0))), (a 2, .inl (Γ.2.1, 780, .inl (g 1))), (a 3, .inl (Γ.2.1, 60, .inl (g 2))), (a 4, .inl (Γ.2.1, 88, .inl (g 3)))] H := hP
  have hD : va_D A [(a 0, .inr (9, [.int (nI (qCode ip ipl il ih)), .ref (a 1), .ref (a 2), .int (v 1), .ref (a 3), .int (v 2), .int (v 3), .int (v 4), .ref (a 4), .int (v 5), .long hs])), (a 1, .inl (Γ.2.1, 130, .inl (g 0))), (a 2, .inl (Γ.2.1, 780, .inl (g 1))), (a 3, .inl (Γ.2.1, 60, .inl (g 2))), (a 4, .inl (Γ.2.1, 88, .inl (g 3)))] := hD
  refine lv_aload_n hx hb dX9_askSum_13 rfl (lv_at hl 0 rfl) ?_
  refine va_get (D := Γ.1) (ci := 9) (v := .int (nI (qCode ip ipl il ih))) (C := RX9) (T := TX9) (N := 11) hx hb hts (by decide +kernel) hown hK hP 0 rfl rfl 0 (by decide) (hts (.fieldLink RX9 22 "RowVeilsModel" "thrown" "I") (by decide +kernel)) (fun _ h9 => h9) rfl dX9_askSum_14 ?_
  refine lv_if_eq (tgt := 22) hx hb dX9_askSum_17 (by decide) (fun c_17 => ?_) (fun c_17 => ?_)
  · have n_17 := (nI_eq (qCode_le _ _ _ _) (by decide)).mp c_17
    obtain ⟨p0, lo, hi2, hp, hlo, hlh, hhi, rfl, hpl, rfl, rfl⟩ := qCode_ok n_17
    rw [n_17] at hP hD
    refine lv_aload_n hx hb dX9_askSum_22 rfl (lv_at hl 0 rfl) ?_
    refine cWv (As := []) (rest := []) (wr := []) (m_X9_saves l Γ _ a (va_up v 0 (nI 0)) hs g σ sc ss h1 hc6 hM hI hSR) S k_X9_saves gX9_askSum_X9_saves rfl ⟨Nat.le_of_ble_eq_true rfl, Nat.le_of_ble_eq_true rfl⟩ hK hP hD hS hA [0, 1, 2, 3, 4] [] rfl rfl (by decide) (by decide) (by decide) 0 (ci := 9) rfl rfl rfl rfl hl.1 (Nat.le_of_ble_eq_true rfl) rfl dX9_askSum_23 ⟨Nat.le_of_ble_eq_true rfl, Nat.le_of_ble_eq_true rfl⟩ (fun u H locs hr hP hD hS => ?_)
    obtain ⟨sv1, e_sv1⟩ : ∃ x, x = u := ⟨u, rfl⟩
    subst e_sv1
    have hP : gP Γ [(a 0, .inr (9, [.int (nI 0), .ref (a 1), .ref (a 2), .int (nI (svC sc)), .ref (a 3), .int (v 2), .int (v 3), .int (v 4), .ref (a 4), .int (v 5), .long hs])), (a 1, .inl (Γ.2.1, 130, .inl (g 0))), (a 2, .inl (Γ.2.1, 780, .inl sv1)), (a 3, .inl (Γ.2.1, 60, .inl (g 2))), (a 4, .inl (Γ.2.1, 88, .inl (g 3)))] H := hP
    have hD : va_D A [(a 0, .inr (9, [.int (nI 0), .ref (a 1), .ref (a 2), .int (nI (svC sc)), .ref (a 3), .int (v 2), .int (v 3), .int (v 4), .ref (a 4), .int (v 5), .long hs])), (a 1, .inl (Γ.2.1, 130, .inl (g 0))), (a 2, .inl (Γ.2.1, 780, .inl sv1)), (a 3, .inl (Γ.2.1, 60, .inl (g 2))), (a 4, .inl (Γ.2.1, 88, .inl (g 3)))] := hD
    have hSV := hr
    refine lv_aload_n hx hb dX9_askSum_26 rfl (lv_at hl 0 rfl) ?_
    refine lv_aload_n hx hb dX9_askSum_27 rfl (lv_at hl 0 rfl) ?_
    refine lv_iload_n hx hb dX9_askSum_28 rfl (lv_at hl 1 rfl) ?_
    refine lv_iload_n hx hb dX9_askSum_29 rfl (lv_at hl 2 rfl) ?_
    refine lv_iload_n hx hb dX9_askSum_30 rfl (lv_at hl 3 rfl) ?_
    refine lv_iload hx hb dX9_askSum_31 (lv_at hl 4 rfl) ?_
    refine cRi (As := [.int (nI p0), .int ipl, .int (nI lo), .int (nI hi2)]) (rest := [.ref (a 0)]) (m_X9_asked l Γ a (va_up (va_up v 0 (nI 0)) 1 (nI (svC sc))) hs (va_up g 1 sv1) σ hM hI p0 hp ipl lo hi2 (by omega) (by omega)) S k_X9_asked gX9_askSum_X9_asked rfl ⟨Nat.le_of_ble_eq_true rfl, Nat.le_of_ble_eq_true rfl⟩ hK hP [0, 1, 2, 3, 4] rfl 0 (ci := 9) rfl rfl rfl rfl hl.1 (Nat.le_of_ble_eq_true rfl) rfl dX9_askSum_33 ⟨Nat.le_of_ble_eq_true rfl, Nat.le_of_ble_eq_true rfl⟩ (fun r hr => ?_)
    subst hr
    refine cRi (As := [.int (nI (seenQ σ p0 ipl lo hi2))]) (rest := []) (m_X9_sumTold l Γ a (va_up (va_up v 0 (nI 0)) 1 (nI (svC sc))) hs (va_up g 1 sv1) σ hM hI (seenQ σ p0 ipl lo hi2) (seenQ_lt hI p0 ipl lo hi2)) S k_X9_sumTold gX9_askSum_X9_sumTold rfl ⟨Nat.le_of_ble_eq_true rfl, Nat.le_of_ble_eq_true rfl⟩ hK hP [0, 1, 2, 3, 4] rfl 0 (ci := 9) rfl rfl rfl rfl hl.1 (Nat.le_of_ble_eq_true rfl) rfl dX9_askSum_36 ⟨Nat.le_of_ble_eq_true rfl, Nat.le_of_ble_eq_true rfl⟩ (fun r hr => ?_)
    subst hr
    refine lv_istore (lv' := [(5, .int (sAns σ (seenQ σ p0 ipl lo hi2))), (0, .ref (a 0)), (1, .int (nI p0)), (2, .int ipl), (3, .int (nI lo)), (4, .int (nI hi2))]) hx hb dX9_askSum_39 hl (by decide) rfl (fun ls hl => ?_)
    refine lv_aload_n hx hb dX9_askSum_41 rfl (lv_at hl 1 rfl) ?_
    refine lv_iload_n hx hb dX9_askSum_42 rfl (lv_at hl 2 rfl) ?_
    refine lv_iload hx hb dX9_askSum_43 (lv_at hl 0 rfl) ?_
    refine cWv (As := [.int (nI p0), .int (sAns σ (seenQ σ p0 ipl lo hi2))]) (rest := []) (wr := []) (m_X9_counts l Γ _ a (va_up (va_up v 0 (nI 0)) 1 (nI (svC sc))) hs (va_up g 1 sv1) σ hM hI p0 hp (sAns σ (seenQ σ p0 ipl lo hi2))) S k_X9_counts gX9_askSum_X9_counts rfl ⟨Nat.le_of_ble_eq_true rfl, Nat.le_of_ble_eq_true rfl⟩ hK hP hD hS hA [0, 1, 2, 3, 4] [] rfl rfl (by decide) (by decide) (by decide) 0 (ci := 9) rfl rfl rfl rfl hl.1 (Nat.le_of_ble_eq_true rfl) rfl dX9_askSum_45 ⟨Nat.le_of_ble_eq_true rfl, Nat.le_of_ble_eq_true rfl⟩ (fun u H locs hr hP hD hS => ?_)
    obtain ⟨ct1, e_ct1⟩ : ∃ x, x = u := ⟨u, rfl⟩
    subst e_ct1
    have hP : gP Γ [(a 0, .inr (9, [.int (nI 0), .ref (a 1), .ref (a 2), .int (nI (svC sc)), .ref (a 3), .int (v 2), .int (v 3), .int (v 4), .ref (a 4), .int (v 5), .long hs])), (a 1, .inl (Γ.2.1, 130, .inl ct1)), (a 2, .inl (Γ.2.1, 780, .inl sv1)), (a 3, .inl (Γ.2.1, 60, .inl (g 2))), (a 4, .inl (Γ.2.1, 88, .inl (g 3)))] H := hP
    have hD : va_D A [(a 0, .inr (9, [.int (nI 0), .ref (a 1), .ref (a 2), .int (nI (svC sc)), .ref (a 3), .int (v 2), .int (v 3), .int (v 4), .ref (a 4), .int (v 5), .long hs])), (a 1, .inl (Γ.2.1, 130, .inl ct1)), (a 2, .inl (Γ.2.1, 780, .inl sv1)), (a 3, .inl (Γ.2.1, 60, .inl (g 2))), (a 4, .inl (Γ.2.1, 88, .inl (g 3)))] := hD
    have hCT := hr
    refine lv_iload hx hb dX9_askSum_48 (lv_at hl 0 rfl) ?_
    exact W.iret (v := sAns σ (seenQ σ p0 ipl lo hi2)) hx hb hrt (fun t9 ht9 hW9 => ⟨⟨_, (va_up (va_up v 0 (nI 0)) 1 (nI (svC sc)), hs, va_up (va_up g 0 ct1) 1 sv1), rfl, MO.ok n_17 rfl (by rw [nI_clamp (by omega), nI_clamp (by omega), nI_clamp (by omega)]) (by rw [nI_clamp (by omega), nI_clamp (by omega), nI_clamp (by omega)]; exact (MR.sv (hCT) (cnt_I hI hp) rfl h2 hBR hSV)), wd_end hK hP hD [0, 1, 2, 3, 4] (by decide) rfl t9 ht9 hW9⟩, hS.F ht9⟩) hS.2.2 dX9_askSum_50 hlk
  · have n_17 := (not_congr (nI_eq (qCode_le _ _ _ _) (by decide))).mp c_17
    refine lv_iconst (v := nI 0) hx hb dX9_askSum_20 (by decide) ?_
    exact W.iret (v := nI 0) hx hb hrt (fun t9 ht9 hW9 => ⟨⟨_, (va_up v 0 (nI (qCode ip ipl il ih)), hs, g), rfl, ⟨rfl, fun h => absurd h n_17, fun _ => ⟨rfl, (hX.th rfl rfl)⟩⟩, wd_end hK hP hD [0, 1, 2, 3, 4] (by decide) rfl t9 ht9 hW9⟩, hS.F ht9⟩) hS.2.2 dX9_askSum_21 hlk

abbrev rm_X9_ask : Room := { frames := 7, cells := 0, slots := 0, locals := 162 }
theorem k_X9_ask : Cal yX9_ask wsX9_ask rm_X9_ask cX9_ask 7 (some .int) 4 0 0 := ⟨⟨_, rfl⟩, rfl, rfl, by decide +kernel⟩
set_option maxHeartbeats 4000000 in
set_option maxRecDepth 100000 in
theorem m_X9_ask (l : Launch) (Γ : Gm) (sz : Nat) (a : Nat → Nat) (v : Nat → Int32) (hs : Int64) (g : Nat → Nat → Int32) (σ : Nat → Nat) (sc : Nat) (ss : Nat → Nat → Nat) (nb : Nat) (bb : Nat → Nat) (hX : MR σ sc ss nb bb v g) (ip ipl il ih : Int32) : MWi (S := WtM) l yX9_ask wsX9_ask rm_X9_ask Γ sz (wMd Γ a v hs g) [.ref (a 0), .int ip, .int ipl, .int il, .int ih] (fun r u => MO (qCode ip ipl il ih) r (cAns σ ip.toNatClampNeg (seenQ σ ip.toNatClampNeg ipl il.toNatClampNeg ih.toNatClampNeg)) (MR (askS σ ip.toNatClampNeg ipl il.toNatClampNeg ih.toNatClampNeg) (svC sc) (svS sc ss σ) nb bb u.1 u.2.2) (MR σ sc ss nb bb u.1 u.2.2) (u.1 0)) (fun u => (wMd Γ a u.1 u.2.1 u.2.2)) 0 0 := by
  refine mW (cc := cX9_ask) (maxL := 7) (ret := (some .int)) (own := RX9) (by decide) rfl rfl (Nat.le_of_ble_eq_true rfl) ?_
  intro p e s m args below meth c S hrt hlk hin hsz hK hP hD hA hS ls hl
  subst hsz
  generalize hAe : va_A (wMd Γ a v hs g) s.heap.size = A at hD hA hS ⊢
  obtain ⟨hx, hb, hml, hown, hts⟩ := id S
  obtain ⟨hM, hI, hc6, h1, h2, hBR, hSR⟩ := id hX
  have hl : lv_has ls 7 [(0, .ref (a 0)), (1, .int ip), (2, .int ipl), (3, .int il), (4, .int ih)] := hl
  have hH : s.heap = s.heap := rfl
  refine lv_aload_n hx hb dX9_ask_0 rfl (lv_at hl 0 rfl) ?_
  refine lv_aload_n hx hb dX9_ask_1 rfl (lv_at hl 0 rfl) ?_
  refine lv_iload_n hx hb dX9_ask_2 rfl (lv_at hl 1 rfl) ?_
  refine lv_iload_n hx hb dX9_ask_3 rfl (lv_at hl 2 rfl) ?_
  refine lv_iload_n hx hb dX9_ask_4 rfl (lv_at hl 3 rfl) ?_
  refine lv_iload hx hb dX9_ask_5 (lv_at hl 4 rfl) ?_
  refine cRi (As := [.int ip, .int ipl, .int il, .int ih]) (rest := [.ref (a 0)]) (m_X9_refuses l Γ a v hs g ip ipl il ih) S k_X9_refuses gX9_ask_X9_refuses rfl ⟨Nat.le_of_ble_eq_true rfl, Nat.le_of_ble_eq_true rfl⟩ hK hP [0, 1, 2, 3, 4] rfl 0 (ci := 9) rfl rfl rfl rfl hl.1 (Nat.le_of_ble_eq_true rfl) rfl dX9_ask_7 ⟨Nat.le_of_ble_eq_true rfl, Nat.le_of_ble_eq_true rfl⟩ (fun r hr => ?_)
  subst hr
  refine va_put (D := Γ.1) (ci := 9) (v := .int (nI (qCode ip ipl il ih))) (ty := .int) (C := RX9) (T := TX9) (N := 11) hx hb hts (by decide +kernel) tyX9 tyX9_ok nmX9 hown hK hP hD hS 0 rfl rfl 0 (by decide) (hts (.fieldLink RX9 22 "RowVeilsModel" "thrown" "I") (by decide +kernel)) (fun _ h9 => h9) rfl (by decide +kernel) rfl rfl (Nat.le_of_ble_eq_true rfl) dX9_ask_10 (fun H locs hP hD hS => ?_)
  have hP : gP Γ [(a 0, .inr (9, [.int (nI (qCode ip ipl il ih)), .ref (a 1), .ref (a 2), .int (v 1), .ref (a 3), .int (v 2), .int (v 3), .int (v 4), .ref (a 4), .int (v 5), .long hs])), (a 1, .inl (Γ.2.1, 130, .inl (g 0))), (a 2, .inl (Γ.2.1, 780, .inl (g 1))), (a 3, .inl (Γ.2.1, 60, .inl (g 2))), (a 4, .inl (Γ.2.1, 88, .inl (g 3)))] H := hP
  have hD : va_D A [(a 0, .inr (9, [.int (nI (qCode ip ipl il ih)), .ref (a 1), .ref (a 2), .int (v 1), .ref (a 3), .int (v 2), .int (v 3), .int (v 4), .ref (a 4), .int (v 5), .long hs])), (a 1, .inl (Γ.2.1, 130, .inl (g 0))), (a 2, .inl (Γ.2.1, 780, .inl (g 1))), (a 3, .inl (Γ.2.1, 60, .inl (g 2))), (a 4, .inl (Γ.2.1, 88, .inl (g 3)))] := hD
  refine lv_aload_n hx hb dX9_ask_13 rfl (lv_at hl 0 rfl) ?_
  refine va_get (D := Γ.1) (ci := 9) (v := .int (nI (qCode ip ipl il ih))) (C := RX9) (T := TX9) (N := 11) hx hb hts (by decide +kernel) hown hK hP 0 rfl rfl 0 (by decide) (hts (.fieldLink RX9 22 "RowVeilsModel" "thrown" "I") (by decide +kernel)) (fun _ h9 => h9) rfl dX9_ask_14 ?_
  refine lv_if_eq (tgt := 22) hx hb dX9_ask_17 (by decide) (fun c_17 => ?_) (fun c_17 => ?_)
  · have n_17 := (nI_eq (qCode_le _ _ _ _) (by decide)).mp c_17
    obtain ⟨p0, lo, hi2, hp, hlo, hlh, hhi, rfl, hpl, rfl, rfl⟩ := qCode_ok n_17
    rw [n_17] at hP hD
    refine lv_aload_n hx hb dX9_ask_22 rfl (lv_at hl 0 rfl) ?_
    refine cWv (As := []) (rest := []) (wr := []) (m_X9_saves l Γ _ a (va_up v 0 (nI 0)) hs g σ sc ss h1 hc6 hM hI hSR) S k_X9_saves gX9_ask_X9_saves rfl ⟨Nat.le_of_ble_eq_true rfl, Nat.le_of_ble_eq_true rfl⟩ hK hP hD hS hA [0, 1, 2, 3, 4] [] rfl rfl (by decide) (by decide) (by decide) 0 (ci := 9) rfl rfl rfl rfl hl.1 (Nat.le_of_ble_eq_true rfl) rfl dX9_ask_23 ⟨Nat.le_of_ble_eq_true rfl, Nat.le_of_ble_eq_true rfl⟩ (fun u H locs hr hP hD hS => ?_)
    obtain ⟨sv1, e_sv1⟩ : ∃ x, x = u := ⟨u, rfl⟩
    subst e_sv1
    have hP : gP Γ [(a 0, .inr (9, [.int (nI 0), .ref (a 1), .ref (a 2), .int (nI (svC sc)), .ref (a 3), .int (v 2), .int (v 3), .int (v 4), .ref (a 4), .int (v 5), .long hs])), (a 1, .inl (Γ.2.1, 130, .inl (g 0))), (a 2, .inl (Γ.2.1, 780, .inl sv1)), (a 3, .inl (Γ.2.1, 60, .inl (g 2))), (a 4, .inl (Γ.2.1, 88, .inl (g 3)))] H := hP
    have hD : va_D A [(a 0, .inr (9, [.int (nI 0), .ref (a 1), .ref (a 2), .int (nI (svC sc)), .ref (a 3), .int (v 2), .int (v 3), .int (v 4), .ref (a 4), .int (v 5), .long hs])), (a 1, .inl (Γ.2.1, 130, .inl (g 0))), (a 2, .inl (Γ.2.1, 780, .inl sv1)), (a 3, .inl (Γ.2.1, 60, .inl (g 2))), (a 4, .inl (Γ.2.1, 88, .inl (g 3)))] := hD
    have hSV := hr
    refine lv_aload_n hx hb dX9_ask_26 rfl (lv_at hl 0 rfl) ?_
    refine lv_iload_n hx hb dX9_ask_27 rfl (lv_at hl 1 rfl) ?_
    refine lv_iload_n hx hb dX9_ask_28 rfl (lv_at hl 2 rfl) ?_
    refine lv_iload_n hx hb dX9_ask_29 rfl (lv_at hl 3 rfl) ?_
    refine lv_iload hx hb dX9_ask_30 (lv_at hl 4 rfl) ?_
    refine cRi (As := [.int (nI p0), .int ipl, .int (nI lo), .int (nI hi2)]) (rest := []) (m_X9_asked l Γ a (va_up (va_up v 0 (nI 0)) 1 (nI (svC sc))) hs (va_up g 1 sv1) σ hM hI p0 hp ipl lo hi2 (by omega) (by omega)) S k_X9_asked gX9_ask_X9_asked rfl ⟨Nat.le_of_ble_eq_true rfl, Nat.le_of_ble_eq_true rfl⟩ hK hP [0, 1, 2, 3, 4] rfl 0 (ci := 9) rfl rfl rfl rfl hl.1 (Nat.le_of_ble_eq_true rfl) rfl dX9_ask_32 ⟨Nat.le_of_ble_eq_true rfl, Nat.le_of_ble_eq_true rfl⟩ (fun r hr => ?_)
    subst hr
    refine lv_istore (lv' := [(5, .int (nI (seenQ σ p0 ipl lo hi2))), (0, .ref (a 0)), (1, .int (nI p0)), (2, .int ipl), (3, .int (nI lo)), (4, .int (nI hi2))]) hx hb dX9_ask_35 hl (by decide) rfl (fun ls hl => ?_)
    refine lv_aload_n hx hb dX9_ask_37 rfl (lv_at hl 1 rfl) ?_
    refine lv_iload_n hx hb dX9_ask_38 rfl (lv_at hl 2 rfl) ?_
    refine lv_iload hx hb dX9_ask_39 (lv_at hl 0 rfl) ?_
    refine cRi (As := [.int (nI p0), .int (nI (seenQ σ p0 ipl lo hi2))]) (rest := []) (m_X9_countTold l Γ a (va_up (va_up v 0 (nI 0)) 1 (nI (svC sc))) hs (va_up g 1 sv1) σ hM hI p0 (seenQ σ p0 ipl lo hi2) hp (seenQ_lt hI p0 ipl lo hi2)) S k_X9_countTold gX9_ask_X9_countTold rfl ⟨Nat.le_of_ble_eq_true rfl, Nat.le_of_ble_eq_true rfl⟩ hK hP [0, 1, 2, 3, 4] rfl 0 (ci := 9) rfl rfl rfl rfl hl.1 (Nat.le_of_ble_eq_true rfl) rfl dX9_ask_41 ⟨Nat.le_of_ble_eq_true rfl, Nat.le_of_ble_eq_true rfl⟩ (fun r hr => ?_)
    subst hr
    refine lv_istore (lv' := [(6, .int (cAns σ p0 (seenQ σ p0 ipl lo hi2))), (5, .int (nI (seenQ σ p0 ipl lo hi2))), (0, .ref (a 0)), (1, .int (nI p0)), (2, .int ipl), (3, .int (nI lo)), (4, .int (nI hi2))]) hx hb dX9_ask_44 hl (by decide) rfl (fun ls hl => ?_)
    refine lv_aload_n hx hb dX9_ask_46 rfl (lv_at hl 2 rfl) ?_
    refine lv_iload_n hx hb dX9_ask_47 rfl (lv_at hl 3 rfl) ?_
    refine lv_iload hx hb dX9_ask_48 (lv_at hl 0 rfl) ?_
    refine cWv (As := [.int (nI p0), .int (cAns σ p0 (seenQ σ p0 ipl lo hi2))]) (rest := []) (wr := []) (m_X9_counts l Γ _ a (va_up (va_up v 0 (nI 0)) 1 (nI (svC sc))) hs (va_up g 1 sv1) σ hM hI p0 hp (cAns σ p0 (seenQ σ p0 ipl lo hi2))) S k_X9_counts gX9_ask_X9_counts rfl ⟨Nat.le_of_ble_eq_true rfl, Nat.le_of_ble_eq_true rfl⟩ hK hP hD hS hA [0, 1, 2, 3, 4] [] rfl rfl (by decide) (by decide) (by decide) 0 (ci := 9) rfl rfl rfl rfl hl.1 (Nat.le_of_ble_eq_true rfl) rfl dX9_ask_50 ⟨Nat.le_of_ble_eq_true rfl, Nat.le_of_ble_eq_true rfl⟩ (fun u H locs hr hP hD hS => ?_)
    obtain ⟨ct1, e_ct1⟩ : ∃ x, x = u := ⟨u, rfl⟩
    subst e_ct1
    have hP : gP Γ [(a 0, .inr (9, [.int (nI 0), .ref (a 1), .ref (a 2), .int (nI (svC sc)), .ref (a 3), .int (v 2), .int (v 3), .int (v 4), .ref (a 4), .int (v 5), .long hs])), (a 1, .inl (Γ.2.1, 130, .inl ct1)), (a 2, .inl (Γ.2.1, 780, .inl sv1)), (a 3, .inl (Γ.2.1, 60, .inl (g 2))), (a 4, .inl (Γ.2.1, 88, .inl (g 3)))] H := hP
    have hD : va_D A [(a 0, .inr (9, [.int (nI 0), .ref (a 1), .ref (a 2), .int (nI (svC sc)), .ref (a 3), .int (v 2), .int (v 3), .int (v 4), .ref (a 4), .int (v 5), .long hs])), (a 1, .inl (Γ.2.1, 130, .inl ct1)), (a 2, .inl (Γ.2.1, 780, .inl sv1)), (a 3, .inl (Γ.2.1, 60, .inl (g 2))), (a 4, .inl (Γ.2.1, 88, .inl (g 3)))] := hD
    have hCT := hr
    refine lv_iload hx hb dX9_ask_53 (lv_at hl 0 rfl) ?_
    refine lv_iconst (v := (-1)) hx hb dX9_ask_55 (by decide) ?_
    refine lv_icmp_eq (tgt := 90) hx hb dX9_ask_56 (by decide) (fun c_56 => ?_) (fun c_56 => ?_)
    · have c_55 := c_56
      refine lv_iload hx hb dX9_ask_90 (lv_at hl 0 rfl) ?_
      exact W.iret (v := cAns σ p0 (seenQ σ p0 ipl lo hi2)) hx hb hrt (fun t9 ht9 hW9 => ⟨⟨_, (va_up (va_up v 0 (nI 0)) 1 (nI (svC sc)), hs, va_up (va_up g 0 ct1) 1 sv1), rfl, MO.ok n_17 rfl (by rw [nI_clamp (by omega), nI_clamp (by omega), nI_clamp (by omega)]) (by rw [nI_clamp (by omega), nI_clamp (by omega), nI_clamp (by omega)]; exact (MR.sv ((by unfold askS; rw [if_pos c_55]; rw [if_pos c_55] at hCT; exact hCT)) ((by unfold askS; rw [if_pos c_55]; exact cnt_I hI hp)) rfl h2 hBR hSV)), wd_end hK hP hD [0, 1, 2, 3, 4] (by decide) rfl t9 ht9 hW9⟩, hS.F ht9⟩) hS.2.2 dX9_ask_92 hlk
    · have c_55 := c_56
      have hC0 : RepM (cntS σ p0 0) ct1 := by rw [if_neg c_55] at hCT; exact hCT
      refine lv_aload_n hx hb dX9_ask_59 rfl (lv_at hl 2 rfl) ?_
      refine va_get (D := Γ.1) (ci := 9) (v := .ref (a 1)) (C := RX9) (T := TX9) (N := 11) hx hb hts (by decide +kernel) hown hK hP 0 rfl rfl 1 (by decide) (hts (.fieldLink RX9 7 "RowVeilsModel" "s" "[I") (by decide +kernel)) (fun _ h9 => h9) rfl dX9_ask_60 ?_
      refine lv_iconst (v := nI 5) hx hb dX9_ask_63 (by decide) ?_
      refine lv_dup2_11 hx hb dX9_ask_64 rfl rfl ?_
      refine va_iald hx hb hK hP 1 0 rfl rfl (vp_in_nI (by omega) (by omega)) dX9_ask_65 ?_
      refine asi (z := nI (σ 5)) ((congrArg _ (nI_clamp (by omega))).trans ((hC0 5 (by decide)).trans (congrArg nI (cnt_x (by omega))))) ?_
      refine lv_aload_n hx hb dX9_ask_66 rfl (lv_at hl 2 rfl) ?_
      refine lv_iload_n hx hb dX9_ask_67 rfl (lv_at hl 3 rfl) ?_
      refine lv_iload hx hb dX9_ask_68 (lv_at hl 1 rfl) ?_
      refine cRi (As := [.int (nI p0), .int (nI (seenQ σ p0 ipl lo hi2))]) (rest := [.int (nI (σ 5)), .int (nI 5), .ref (a 1)]) (m_X9_givesAway l Γ a (va_up (va_up v 0 (nI 0)) 1 (nI (svC sc))) hs (va_up (va_up g 0 ct1) 1 sv1) (cntS σ p0 0) hC0 (cnt_I hI hp) p0 (seenQ σ p0 ipl lo hi2) hp (seenQ_lt hI p0 ipl lo hi2)) S k_X9_givesAway gX9_ask_X9_givesAway rfl ⟨Nat.le_of_ble_eq_true rfl, Nat.le_of_ble_eq_true rfl⟩ hK hP [0, 1, 2, 3, 4] rfl 0 (ci := 9) rfl rfl rfl rfl hl.1 (Nat.le_of_ble_eq_true rfl) rfl dX9_ask_70 ⟨Nat.le_of_ble_eq_true rfl, Nat.le_of_ble_eq_true rfl⟩ (fun r hr => ?_)
      subst hr
      refine asi (z := bI (givesQ σ p0 (seenQ σ p0 ipl lo hi2))) (by rw [gives_c hp (hI.kept hp)]) ?_
      refine lv_if_eq (tgt := 80) hx hb dX9_ask_73 (by decide) (fun c_73 => ?_) (fun c_73 => ?_)
      · have n_73 := bI_z.mp c_73
        refine lv_iconst (v := nI 0) hx hb dX9_ask_80 (by decide) ?_
        refine lv_iadd hx hb dX9_ask_81 ?_
        refine asi (z := nI ((σ 5) + 0)) (nI_add _ _) ?_
        refine va_iast hx hb hK hP hD hS 1 0 rfl rfl (vp_in_nI (by omega) (by omega)) dX9_ask_82 (fun H locs hP hD hS => ?_)
        have ec : (nI 5).toNatClampNeg = 5 := nI_clamp (by omega)
        rw [ec] at hP hD
        clear ec
        have hP : gP Γ [(a 0, .inr (9, [.int (nI 0), .ref (a 1), .ref (a 2), .int (nI (svC sc)), .ref (a 3), .int (v 2), .int (v 3), .int (v 4), .ref (a 4), .int (v 5), .long hs])), (a 1, .inl (Γ.2.1, 130, .inl (upd ct1 5 (nI ((σ 5) + 0))))), (a 2, .inl (Γ.2.1, 780, .inl sv1)), (a 3, .inl (Γ.2.1, 60, .inl (g 2))), (a 4, .inl (Γ.2.1, 88, .inl (g 3)))] H := hP
        have hD : va_D A [(a 0, .inr (9, [.int (nI 0), .ref (a 1), .ref (a 2), .int (nI (svC sc)), .ref (a 3), .int (v 2), .int (v 3), .int (v 4), .ref (a 4), .int (v 5), .long hs])), (a 1, .inl (Γ.2.1, 130, .inl (upd ct1 5 (nI ((σ 5) + 0))))), (a 2, .inl (Γ.2.1, 780, .inl sv1)), (a 3, .inl (Γ.2.1, 60, .inl (g 2))), (a 4, .inl (Γ.2.1, 88, .inl (g 3)))] := hD
        refine lv_aload_n hx hb dX9_ask_83 rfl (lv_at hl 2 rfl) ?_
        refine lv_iload_n hx hb dX9_ask_84 rfl (lv_at hl 3 rfl) ?_
        refine lv_iload hx hb dX9_ask_85 (lv_at hl 1 rfl) ?_
        refine cWv (As := [.int (nI p0), .int (nI (seenQ σ p0 ipl lo hi2))]) (rest := []) (wr := []) (m_X9_remembers l Γ _ a (va_up (va_up v 0 (nI 0)) 1 (nI (svC sc))) hs (va_up (va_up g 0 (upd ct1 5 (nI ((σ 5) + 0)))) 1 sv1) (cntS σ p0 0) (nog_M hC0 hp) (cnt_I hI hp) p0 (seenQ σ p0 ipl lo hi2) hp) S k_X9_remembers gX9_ask_X9_remembers rfl ⟨Nat.le_of_ble_eq_true rfl, Nat.le_of_ble_eq_true rfl⟩ hK hP hD hS hA [0, 1, 2, 3, 4] [] rfl rfl (by decide) (by decide) (by decide) 0 (ci := 9) rfl rfl rfl rfl hl.1 (Nat.le_of_ble_eq_true rfl) rfl dX9_ask_87 ⟨Nat.le_of_ble_eq_true rfl, Nat.le_of_ble_eq_true rfl⟩ (fun u H locs hr hP hD hS => ?_)
        obtain ⟨rm1, e_rm1⟩ : ∃ x, x = u := ⟨u, rfl⟩
        subst e_rm1
        have hP : gP Γ [(a 0, .inr (9, [.int (nI 0), .ref (a 1), .ref (a 2), .int (nI (svC sc)), .ref (a 3), .int (v 2), .int (v 3), .int (v 4), .ref (a 4), .int (v 5), .long hs])), (a 1, .inl (Γ.2.1, 130, .inl rm1)), (a 2, .inl (Γ.2.1, 780, .inl sv1)), (a 3, .inl (Γ.2.1, 60, .inl (g 2))), (a 4, .inl (Γ.2.1, 88, .inl (g 3)))] H := hP
        have hD : va_D A [(a 0, .inr (9, [.int (nI 0), .ref (a 1), .ref (a 2), .int (nI (svC sc)), .ref (a 3), .int (v 2), .int (v 3), .int (v 4), .ref (a 4), .int (v 5), .long hs])), (a 1, .inl (Γ.2.1, 130, .inl rm1)), (a 2, .inl (Γ.2.1, 780, .inl sv1)), (a 3, .inl (Γ.2.1, 60, .inl (g 2))), (a 4, .inl (Γ.2.1, 88, .inl (g 3)))] := hD
        have hRM := hr
        refine lv_iload hx hb dX9_ask_90 (lv_at hl 0 rfl) ?_
        exact W.iret (v := cAns σ p0 (seenQ σ p0 ipl lo hi2)) hx hb hrt (fun t9 ht9 hW9 => ⟨⟨_, (va_up (va_up v 0 (nI 0)) 1 (nI (svC sc)), hs, va_up (va_up g 0 rm1) 1 sv1), rfl, MO.ok n_17 rfl (by rw [nI_clamp (by omega), nI_clamp (by omega), nI_clamp (by omega)]) (by rw [nI_clamp (by omega), nI_clamp (by omega), nI_clamp (by omega)]; exact (MR.sv ((by unfold askS; rw [if_neg c_55]; first | (rw [if_pos n_73]; exact hRM) | (rw [if_neg (by rw [n_73]; decide)]; exact hRM))) ((by unfold askS; rw [if_neg c_55]; first | (rw [if_pos n_73]; exact rem_I (giv_I (cnt_I hI hp)) hp (seenQ_lt hI p0 ipl lo hi2)) | (rw [if_neg (by rw [n_73]; decide)]; exact rem_I (cnt_I hI hp) hp (seenQ_lt hI p0 ipl lo hi2)))) rfl h2 hBR hSV)), wd_end hK hP hD [0, 1, 2, 3, 4] (by decide) rfl t9 ht9 hW9⟩, hS.F ht9⟩) hS.2.2 dX9_ask_92 hlk
      · have n_73 := bI_nz.mp c_73
        refine lv_iconst (v := nI 1) hx hb dX9_ask_76 (by decide) ?_
        refine lv_goto (tgt := 81) hx hb dX9_ask_77 (by decide) ?_
        refine lv_iadd hx hb dX9_ask_81 ?_
        refine asi (z := nI ((σ 5) + 1)) (nI_add _ _) ?_
        refine va_iast hx hb hK hP hD hS 1 0 rfl rfl (vp_in_nI (by omega) (by omega)) dX9_ask_82 (fun H locs hP hD hS => ?_)
        have ec : (nI 5).toNatClampNeg = 5 := nI_clamp (by omega)
        rw [ec] at hP hD
        clear ec
        have hP : gP Γ [(a 0, .inr (9, [.int (nI 0), .ref (a 1), .ref (a 2), .int (nI (svC sc)), .ref (a 3), .int (v 2), .int (v 3), .int (v 4), .ref (a 4), .int (v 5), .long hs])), (a 1, .inl (Γ.2.1, 130, .inl (upd ct1 5 (nI ((σ 5) + 1))))), (a 2, .inl (Γ.2.1, 780, .inl sv1)), (a 3, .inl (Γ.2.1, 60, .inl (g 2))), (a 4, .inl (Γ.2.1, 88, .inl (g 3)))] H := hP
        have hD : va_D A [(a 0, .inr (9, [.int (nI 0), .ref (a 1), .ref (a 2), .int (nI (svC sc)), .ref (a 3), .int (v 2), .int (v 3), .int (v 4), .ref (a 4), .int (v 5), .long hs])), (a 1, .inl (Γ.2.1, 130, .inl (upd ct1 5 (nI ((σ 5) + 1))))), (a 2, .inl (Γ.2.1, 780, .inl sv1)), (a 3, .inl (Γ.2.1, 60, .inl (g 2))), (a 4, .inl (Γ.2.1, 88, .inl (g 3)))] := hD
        refine lv_aload_n hx hb dX9_ask_83 rfl (lv_at hl 2 rfl) ?_
        refine lv_iload_n hx hb dX9_ask_84 rfl (lv_at hl 3 rfl) ?_
        refine lv_iload hx hb dX9_ask_85 (lv_at hl 1 rfl) ?_
        refine cWv (As := [.int (nI p0), .int (nI (seenQ σ p0 ipl lo hi2))]) (rest := []) (wr := []) (m_X9_remembers l Γ _ a (va_up (va_up v 0 (nI 0)) 1 (nI (svC sc))) hs (va_up (va_up g 0 (upd ct1 5 (nI ((σ 5) + 1)))) 1 sv1) (givS (cntS σ p0 0)) (giv_M hC0 hp) (giv_I (cnt_I hI hp)) p0 (seenQ σ p0 ipl lo hi2) hp) S k_X9_remembers gX9_ask_X9_remembers rfl ⟨Nat.le_of_ble_eq_true rfl, Nat.le_of_ble_eq_true rfl⟩ hK hP hD hS hA [0, 1, 2, 3, 4] [] rfl rfl (by decide) (by decide) (by decide) 0 (ci := 9) rfl rfl rfl rfl hl.1 (Nat.le_of_ble_eq_true rfl) rfl dX9_ask_87 ⟨Nat.le_of_ble_eq_true rfl, Nat.le_of_ble_eq_true rfl⟩ (fun u H locs hr hP hD hS => ?_)
        obtain ⟨rm1, e_rm1⟩ : ∃ x, x = u := ⟨u, rfl⟩
        subst e_rm1
        have hP : gP Γ [(a 0, .inr (9, [.int (nI 0), .ref (a 1), .ref (a 2), .int (nI (svC sc)), .ref (a 3), .int (v 2), .int (v 3), .int (v 4), .ref (a 4), .int (v 5), .long hs])), (a 1, .inl (Γ.2.1, 130, .inl rm1)), (a 2, .inl (Γ.2.1, 780, .inl sv1)), (a 3, .inl (Γ.2.1, 60, .inl (g 2))), (a 4, .inl (Γ.2.1, 88, .inl (g 3)))] H := hP
        have hD : va_D A [(a 0, .inr (9, [.int (nI 0), .ref (a 1), .ref (a 2), .int (nI (svC sc)), .ref (a 3), .int (v 2), .int (v 3), .int (v 4), .ref (a 4), .int (v 5), .long hs])), (a 1, .inl (Γ.2.1, 130, .inl rm1)), (a 2, .inl (Γ.2.1, 780, .inl sv1)), (a 3, .inl (Γ.2.1, 60, .inl (g 2))), (a 4, .inl (Γ.2.1, 88, .inl (g 3)))] := hD
        have hRM := hr
        refine lv_iload hx hb dX9_ask_90 (lv_at hl 0 rfl) ?_
        exact W.iret (v := cAns σ p0 (seenQ σ p0 ipl lo hi2)) hx hb hrt (fun t9 ht9 hW9 => ⟨⟨_, (va_up (va_up v 0 (nI 0)) 1 (nI (svC sc)), hs, va_up (va_up g 0 rm1) 1 sv1), rfl, MO.ok n_17 rfl (by rw [nI_clamp (by omega), nI_clamp (by omega), nI_clamp (by omega)]) (by rw [nI_clamp (by omega), nI_clamp (by omega), nI_clamp (by omega)]; exact (MR.sv ((by unfold askS; rw [if_neg c_55]; first | (rw [if_pos n_73]; exact hRM) | (rw [if_neg (by rw [n_73]; decide)]; exact hRM))) ((by unfold askS; rw [if_neg c_55]; first | (rw [if_pos n_73]; exact rem_I (giv_I (cnt_I hI hp)) hp (seenQ_lt hI p0 ipl lo hi2)) | (rw [if_neg (by rw [n_73]; decide)]; exact rem_I (cnt_I hI hp) hp (seenQ_lt hI p0 ipl lo hi2)))) rfl h2 hBR hSV)), wd_end hK hP hD [0, 1, 2, 3, 4] (by decide) rfl t9 ht9 hW9⟩, hS.F ht9⟩) hS.2.2 dX9_ask_92 hlk
  · have n_17 := (not_congr (nI_eq (qCode_le _ _ _ _) (by decide))).mp c_17
    refine lv_iconst (v := nI 0) hx hb dX9_ask_20 (by decide) ?_
    exact W.iret (v := nI 0) hx hb hrt (fun t9 ht9 hW9 => ⟨⟨_, (va_up v 0 (nI (qCode ip ipl il ih)), hs, g), rfl, ⟨rfl, fun h => absurd h n_17, fun _ => ⟨rfl, (hX.th rfl rfl)⟩⟩, wd_end hK hP hD [0, 1, 2, 3, 4] (by decide) rfl t9 ht9 hW9⟩, hS.F ht9⟩) hS.2.2 dX9_ask_21 hlk

