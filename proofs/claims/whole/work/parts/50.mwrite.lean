/-! The reference's cells and what its calls do to them. -/
theorem RepM.up {σ : Nat → Nat} {g : Nat → Int32} {i v : Nat} (h : RepM σ g) : RepM (nup σ i v) (upd g i (nI v)) := by
  intro j hj
  by_cases c : j = i
  · rw [c, up_t, nup_v]
  · rw [up_f c, nup_e c]; exact h j hj
def SR (sc : Nat) (ss : Nat → Nat → Nat) (g : Nat → Int32) : Prop := ∀ j, j < sc → (∀ i, i < 130 → g (130 * j + i) = nI (ss j i)) ∧ Inv (ss j)
def MR (σ : Nat → Nat) (sc : Nat) (ss : Nat → Nat → Nat) (nb : Nat) (bb : Nat → Nat) (v : Nat → Int32) (g : Nat → Nat → Int32) : Prop := RepM σ (g 0) ∧ Inv σ ∧ sc ≤ 6 ∧ v 1 = nI sc ∧ v 2 = nI nb ∧ BR nb bb (g 2) ∧ SR sc ss (g 1)
abbrev WtM : Type := (Nat → Int32) × Int64 × (Nat → Nat → Int32)
/-- a call of the reference: its code, its answer, its cells after -/
def MO (k : Nat) (r val : Int32) (A B : Prop) (t : Int32) : Prop := t = nI k ∧ (k = 0 → r = val ∧ A) ∧ (¬ k = 0 → r = nI 0 ∧ B)
def shG (g : Nat → Int32) (k : Nat) : Nat → Int32 := fun j => if j < k then g (j + 130) else g j
theorem shG_0 (g : Nat → Int32) : shG g 0 = g := by funext j; exact if_neg (by omega)
theorem shG_s (g : Nat → Int32) (k : Nat) : upd (shG g k) k (shG g k (k + 130)) = shG g (k + 1) := by
  funext j
  unfold upd shG
  by_cases c : j = k
  · rw [if_pos c, c, if_neg (by omega : ¬ k + 130 < k), if_pos (by omega : k < k + 1)]
  · rw [if_neg c]
    by_cases d : j < k
    · rw [if_pos d, if_pos (by omega)]
    · rw [if_neg d, if_neg (by omega)]
def wrG (g s : Nat → Int32) (sc k : Nat) : Nat → Int32 := fun j => if 130 * sc ≤ j ∧ j < 130 * sc + k then s (j - 130 * sc) else g j
theorem wrG_0 (g s : Nat → Int32) (sc : Nat) : wrG g s sc 0 = g := by funext j; exact if_neg (by omega)
theorem wrG_s (g s : Nat → Int32) (sc k : Nat) : upd (wrG g s sc k) (130 * sc + k) (s k) = wrG g s sc (k + 1) := by
  funext j
  unfold upd wrG
  by_cases c : j = 130 * sc + k
  · rw [if_pos c, if_pos (by omega), c, show 130 * sc + k - 130 * sc = k by omega]
  · rw [if_neg c]
    by_cases d : 130 * sc ≤ j ∧ j < 130 * sc + k
    · rw [if_pos d, if_pos (by omega)]
    · rw [if_neg d, if_neg (by omega)]
def ssP (sc : Nat) (ss : Nat → Nat → Nat) : Nat → Nat → Nat := if sc = 6 then fun j => ss (j + 1) else ss
theorem SR.sh {ss : Nat → Nat → Nat} {g : Nat → Int32} (h : SR 6 ss g) : SR 5 (fun j => ss (j + 1)) (shG g 650) := by
  intro j hj
  refine ⟨fun i hi => ?_, (h (j + 1) (by omega)).2⟩
  unfold shG
  rw [if_pos (by omega), show 130 * j + i + 130 = 130 * (j + 1) + i by omega]
  exact (h (j + 1) (by omega)).1 i hi
theorem SR.sv {sc : Nat} {ss : Nat → Nat → Nat} {σ : Nat → Nat} {gg s : Nat → Int32} (hc : sc ≤ 6) (h : SR (min sc 5) (ssP sc ss) gg) (hM : RepM σ s) (hI : Inv σ) : SR (svC sc) (svS sc ss σ) (wrG gg s (min sc 5) 130) := by
  intro j hj
  unfold svC at hj
  have e1 : j = min sc 5 → svS sc ss σ j = σ := fun e => by
    unfold svS
    by_cases c : sc = 6
    · rw [if_pos c, if_pos (by omega)]
    · rw [if_neg c, if_pos (by omega)]
  have e2 : ¬ j = min sc 5 → svS sc ss σ j = ssP sc ss j := fun e => by
    unfold svS ssP
    by_cases c : sc = 6
    · rw [if_pos c, if_pos c, if_neg (by omega)]
    · rw [if_neg c, if_neg c, if_neg (by omega)]
  by_cases e : j = min sc 5
  · rw [e1 e]
    refine ⟨fun i hi => ?_, hI⟩
    unfold wrG
    rw [if_pos (by omega), show 130 * j + i - 130 * min sc 5 = i by omega]
    exact hM i hi
  · rw [e2 e]
    obtain ⟨h1, h2⟩ := h j (by omega)
    refine ⟨fun i hi => ?_, h2⟩
    unfold wrG
    rw [if_neg (by omega)]
    exact h1 i hi
theorem MO.bad {K k : Nat} {r val t : Int32} {A B : Prop} (hK : K = k + 1) (ht : t = nI (k + 1)) (hr : r = nI 0) (hB : B) : MO K r val A B t := ⟨by rw [ht, hK], fun h => absurd h (by omega), fun _ => ⟨hr, hB⟩⟩
theorem MO.ok {K : Nat} {r val t : Int32} {A B : Prop} (hK : K = 0) (ht : t = nI 0) (hr : r = val) (hA : A) : MO K r val A B t := ⟨by rw [ht, hK], fun _ => ⟨hr, hA⟩, fun h => absurd hK h⟩
theorem MR.th {σ : Nat → Nat} {sc nb : Nat} {ss : Nat → Nat → Nat} {bb : Nat → Nat} {v v' : Nat → Int32} {g : Nat → Nat → Int32} (h : MR σ sc ss nb bb v g) (e1 : v' 1 = v 1) (e2 : v' 2 = v 2) : MR σ sc ss nb bb v' g := ⟨h.1, h.2.1, h.2.2.1, e1.trans h.2.2.2.1, e2.trans h.2.2.2.2.1, h.2.2.2.2.2.1, h.2.2.2.2.2.2⟩
theorem MR.sv {σ σ' : Nat → Nat} {sc nb : Nat} {ss : Nat → Nat → Nat} {bb : Nat → Nat} {v' : Nat → Int32} {g' : Nat → Nat → Int32} (hM : RepM σ' (g' 0)) (hI : Inv σ') (e1 : v' 1 = nI (svC sc)) (e2 : v' 2 = nI nb) (hB : BR nb bb (g' 2)) (hS : SR (svC sc) (svS sc ss σ) (g' 1)) : MR σ' (svC sc) (svS sc ss σ) nb bb v' g' := ⟨hM, hI, Nat.min_le_right _ _, e1, e2, hB, hS⟩
theorem pl_in {x : Int32} {n : Nat} (hn : n < 2 ^ 31) : inI x (-1) (nI n) = (decide (x = -1) || inI x (nI 0) (nI n)) := by
  apply Bool.eq_iff_iff.mpr
  rw [Bool.or_eq_true, decide_eq_true_eq, inI_t', inI_t']
  have h1 : (-1 : Int32).toInt = -1 := by decide
  have h0 : (nI 0).toInt = 0 := by decide
  have hN := nI_toInt hn
  constructor
  · intro ⟨a, b⟩
    have a2 := Int32.le_iff_toInt_le.mp a
    by_cases c : x = -1
    · exact Or.inl c
    · refine Or.inr ⟨Int32.le_iff_toInt_le.mpr ?_, b⟩
      have c2 : ¬ x.toInt = (-1 : Int32).toInt := fun h => c (Int32.toInt_inj.mp h)
      omega
  · intro h
    rcases h with rfl | ⟨a, b⟩
    · exact ⟨Int32.le_iff_toInt_le.mpr (by omega), Int32.le_iff_toInt_le.mpr (by omega)⟩
    · have a2 := Int32.le_iff_toInt_le.mp a
      exact ⟨Int32.le_iff_toInt_le.mpr (by omega), b⟩
theorem asked_I {σ : Nat → Nat} {p x : Nat} (hI : Inv σ) (hp : p < 5) : Inv (nup σ (70 + 5 * p + 3) x) := by
  have e : ∀ j, ¬ j = 70 + 5 * p + 3 → nup σ (70 + 5 * p + 3) x j = σ j := fun j hj => nup_e hj
  refine ⟨by rw [e _ (by omega)]; exact hI.n, by rw [e _ (by omega)]; exact hI.rules, by rw [e _ (by omega)]; exact hI.least, by rw [e _ (by omega)]; exact hI.coarse, by rw [e _ (by omega)]; exact hI.diff, rowsI (fun j _ _ => e _ (by omega)) (e _ (by omega)) hI, fun q hq => ?_, keepI (fun j _ _ => e _ (by omega)) hI⟩
  rw [show oP (nup σ (70 + 5 * p + 3) x) q 0 = oP σ q 0 from e _ (by omega), show oP (nup σ (70 + 5 * p + 3) x) q 1 = oP σ q 1 from e _ (by omega), show oP (nup σ (70 + 5 * p + 3) x) q 2 = oP σ q 2 from e _ (by omega)]
  exact hI.person hq
abbrev rm_X9_fails : Room := { frames := 0, cells := 0, slots := 0, locals := 0 }
theorem k_X9_fails : Cal yX9_fails wsX9_fails rm_X9_fails cX9_fails 2 (some .int) 1 0 0 := ⟨⟨_, rfl⟩, rfl, rfl, by decide +kernel⟩
set_option maxHeartbeats 4000000 in
set_option maxRecDepth 100000 in
theorem m_X9_fails (l : Launch) (Γ : Gm) (sz : Nat) (a : Nat → Nat) (v : Nat → Int32) (hs : Int64) (g : Nat → Nat → Int32) (k : Int32) : MWi (S := Unit) l yX9_fails wsX9_fails rm_X9_fails Γ sz (wMd Γ a v hs g) [.ref (a 0), .int k] (fun r u => r = nI 0) (fun u => [(a 0, .inr (9, [.int k, .ref (a 1), .ref (a 2), .int (v 1), .ref (a 3), .int (v 2), .int (v 3), .int (v 4), .ref (a 4), .int (v 5), .long hs])), (a 1, .inl (Γ.2.1, 130, .inl (g 0))), (a 2, .inl (Γ.2.1, 780, .inl (g 1))), (a 3, .inl (Γ.2.1, 60, .inl (g 2))), (a 4, .inl (Γ.2.1, 88, .inl (g 3)))]) 0 0 := by
  refine mW (cc := cX9_fails) (maxL := 2) (ret := (some .int)) (own := RX9) (by decide) rfl rfl (Nat.le_of_ble_eq_true rfl) ?_
  intro p e s m args below meth c S hrt hlk hin hsz hK hP hD hA hS ls hl
  subst hsz
  generalize hAe : va_A (wMd Γ a v hs g) s.heap.size = A at hD hA hS ⊢
  obtain ⟨hx, hb, hml, hown, hts⟩ := id S
  have hl : lv_has ls 2 [(0, .ref (a 0)), (1, .int k)] := hl
  have hH : s.heap = s.heap := rfl
  refine lv_aload_n hx hb dX9_fails_0 rfl (lv_at hl 0 rfl) ?_
  refine lv_iload_n hx hb dX9_fails_1 rfl (lv_at hl 1 rfl) ?_
  refine va_put (D := Γ.1) (ci := 9) (v := .int k) (ty := .int) (C := RX9) (T := TX9) (N := 11) hx hb hts (by decide +kernel) tyX9 tyX9_ok nmX9 hown hK hP hD hS 0 rfl rfl 0 (by decide) (hts (.fieldLink RX9 22 "RowVeilsModel" "thrown" "I") (by decide +kernel)) (fun _ h9 => h9) rfl (by decide +kernel) rfl rfl (Nat.le_of_ble_eq_true rfl) dX9_fails_2 (fun H locs hP hD hS => ?_)
  have hP : gP Γ [(a 0, .inr (9, [.int k, .ref (a 1), .ref (a 2), .int (v 1), .ref (a 3), .int (v 2), .int (v 3), .int (v 4), .ref (a 4), .int (v 5), .long hs])), (a 1, .inl (Γ.2.1, 130, .inl (g 0))), (a 2, .inl (Γ.2.1, 780, .inl (g 1))), (a 3, .inl (Γ.2.1, 60, .inl (g 2))), (a 4, .inl (Γ.2.1, 88, .inl (g 3)))] H := hP
  have hD : va_D A [(a 0, .inr (9, [.int k, .ref (a 1), .ref (a 2), .int (v 1), .ref (a 3), .int (v 2), .int (v 3), .int (v 4), .ref (a 4), .int (v 5), .long hs])), (a 1, .inl (Γ.2.1, 130, .inl (g 0))), (a 2, .inl (Γ.2.1, 780, .inl (g 1))), (a 3, .inl (Γ.2.1, 60, .inl (g 2))), (a 4, .inl (Γ.2.1, 88, .inl (g 3)))] := hD
  refine lv_iconst (v := nI 0) hx hb dX9_fails_5 (by decide) ?_
  exact W.iret (v := nI 0) hx hb hrt (fun t9 ht9 hW9 => ⟨⟨_, (), rfl, rfl, wd_end hK hP hD [0, 1, 2, 3, 4] (by decide) rfl t9 ht9 hW9⟩, hS.F ht9⟩) hS.2.2 dX9_fails_6 hlk

abbrev rm_X9_layPerson : Room := { frames := 0, cells := 0, slots := 0, locals := 0 }
theorem k_X9_layPerson : Cal yX9_layPerson wsX9_layPerson rm_X9_layPerson cX9_layPerson 4 none 3 0 0 := ⟨⟨_, rfl⟩, rfl, rfl, by decide +kernel⟩
set_option maxHeartbeats 4000000 in
set_option maxRecDepth 100000 in
theorem m_X9_layPerson (l : Launch) (Γ : Gm) (sz : Nat) (a : Nat → Nat) (v : Nat → Int32) (hs : Int64) (g : Nat → Nat → Int32) (p0 w : Nat) (hw : 70 + 5 * p0 + w < 130) (x : Int32) : MWv (S := Unit) l yX9_layPerson wsX9_layPerson rm_X9_layPerson Γ sz (wMd Γ a v hs g) [.ref (a 0), .int (nI p0), .int (nI w), .int x] (fun u => True) (fun u => [(a 0, .inr (9, [.int (v 0), .ref (a 1), .ref (a 2), .int (v 1), .ref (a 3), .int (v 2), .int (v 3), .int (v 4), .ref (a 4), .int (v 5), .long hs])), (a 1, .inl (Γ.2.1, 130, .inl (upd (g 0) (70 + 5 * p0 + w) x))), (a 2, .inl (Γ.2.1, 780, .inl (g 1))), (a 3, .inl (Γ.2.1, 60, .inl (g 2))), (a 4, .inl (Γ.2.1, 88, .inl (g 3)))]) 0 0 := by
  refine mW (cc := cX9_layPerson) (maxL := 4) (ret := none) (own := RX9) (by decide) rfl rfl (Nat.le_of_ble_eq_true rfl) ?_
  intro p e s m args below meth c S hrt hlk hin hsz hK hP hD hA hS ls hl
  subst hsz
  generalize hAe : va_A (wMd Γ a v hs g) s.heap.size = A at hD hA hS ⊢
  obtain ⟨hx, hb, hml, hown, hts⟩ := id S
  have hl : lv_has ls 4 [(0, .ref (a 0)), (1, .int (nI p0)), (2, .int (nI w)), (3, .int x)] := hl
  have hH : s.heap = s.heap := rfl
  refine lv_aload_n hx hb dX9_layPerson_0 rfl (lv_at hl 0 rfl) ?_
  refine va_get (D := Γ.1) (ci := 9) (v := .ref (a 1)) (C := RX9) (T := TX9) (N := 11) hx hb hts (by decide +kernel) hown hK hP 0 rfl rfl 1 (by decide) (hts (.fieldLink RX9 7 "RowVeilsModel" "s" "[I") (by decide +kernel)) (fun _ h9 => h9) rfl dX9_layPerson_1 ?_
  refine lv_bipush (v := nI 70) hx hb dX9_layPerson_4 (by decide) ?_
  refine lv_iconst (v := nI 5) hx hb dX9_layPerson_6 (by decide) ?_
  refine lv_iload_n hx hb dX9_layPerson_7 rfl (lv_at hl 1 rfl) ?_
  refine lv_imul hx hb dX9_layPerson_8 ?_
  refine asi (z := nI (5 * p0)) (pk_mul _ _) ?_
  refine lv_iadd hx hb dX9_layPerson_9 ?_
  refine asi (z := nI (70 + (5 * p0))) (nI_add _ _) ?_
  refine lv_iload_n hx hb dX9_layPerson_10 rfl (lv_at hl 2 rfl) ?_
  refine lv_iadd hx hb dX9_layPerson_11 ?_
  refine asi (z := nI ((70 + (5 * p0)) + w)) (nI_add _ _) ?_
  refine lv_iload_n hx hb dX9_layPerson_12 rfl (lv_at hl 3 rfl) ?_
  refine va_iast hx hb hK hP hD hS 1 0 rfl rfl (vp_in_nI (by omega) (by omega)) dX9_layPerson_13 (fun H locs hP hD hS => ?_)
  have ec : (nI ((70 + (5 * p0)) + w)).toNatClampNeg = ((70 + (5 * p0)) + w) := nI_clamp (by omega)
  rw [ec] at hP hD
  clear ec
  have hP : gP Γ [(a 0, .inr (9, [.int (v 0), .ref (a 1), .ref (a 2), .int (v 1), .ref (a 3), .int (v 2), .int (v 3), .int (v 4), .ref (a 4), .int (v 5), .long hs])), (a 1, .inl (Γ.2.1, 130, .inl (upd (g 0) ((70 + (5 * p0)) + w) x))), (a 2, .inl (Γ.2.1, 780, .inl (g 1))), (a 3, .inl (Γ.2.1, 60, .inl (g 2))), (a 4, .inl (Γ.2.1, 88, .inl (g 3)))] H := hP
  have hD : va_D A [(a 0, .inr (9, [.int (v 0), .ref (a 1), .ref (a 2), .int (v 1), .ref (a 3), .int (v 2), .int (v 3), .int (v 4), .ref (a 4), .int (v 5), .long hs])), (a 1, .inl (Γ.2.1, 130, .inl (upd (g 0) ((70 + (5 * p0)) + w) x))), (a 2, .inl (Γ.2.1, 780, .inl (g 1))), (a 3, .inl (Γ.2.1, 60, .inl (g 2))), (a 4, .inl (Γ.2.1, 88, .inl (g 3)))] := hD
  exact W.vret hx hb hrt (fun t9 ht9 hW9 => ⟨⟨(), rfl, trivial, wd_end hK hP hD [0, 1, 2, 3, 4] (by decide) rfl t9 ht9 hW9⟩, hS.F ht9⟩) hS.2.2 dX9_layPerson_14 hlk

abbrev rm_X9_saves : Room := { frames := 0, cells := 0, slots := 0, locals := 0 }
theorem k_X9_saves : Cal yX9_saves wsX9_saves rm_X9_saves cX9_saves 2 none 0 0 0 := ⟨⟨_, rfl⟩, rfl, rfl, by decide +kernel⟩
set_option maxHeartbeats 4000000 in
set_option maxRecDepth 100000 in
theorem m_X9_saves (l : Launch) (Γ : Gm) (sz : Nat) (a : Nat → Nat) (v : Nat → Int32) (hs : Int64) (g : Nat → Nat → Int32) (σ : Nat → Nat) (sc : Nat) (ss : Nat → Nat → Nat) (h1 : v 1 = nI sc) (hc6 : sc ≤ 6) (hM : RepM σ (g 0)) (hI : Inv σ) (hSR : SR sc ss (g 1)) : MWv (S := Nat → Int32) l yX9_saves wsX9_saves rm_X9_saves Γ sz (wMd Γ a v hs g) [.ref (a 0)] (fun u => SR (svC sc) (svS sc ss σ) u) (fun u => [(a 0, .inr (9, [.int (v 0), .ref (a 1), .ref (a 2), .int (nI (svC sc)), .ref (a 3), .int (v 2), .int (v 3), .int (v 4), .ref (a 4), .int (v 5), .long hs])), (a 1, .inl (Γ.2.1, 130, .inl (g 0))), (a 2, .inl (Γ.2.1, 780, .inl u)), (a 3, .inl (Γ.2.1, 60, .inl (g 2))), (a 4, .inl (Γ.2.1, 88, .inl (g 3)))]) 0 0 := by
  refine mW (cc := cX9_saves) (maxL := 2) (ret := none) (own := RX9) (by decide) rfl rfl (Nat.le_of_ble_eq_true rfl) ?_
  intro p e s m args below meth c S hrt hlk hin hsz hK hP hD hA hS ls hl
  subst hsz
  generalize hAe : va_A (wMd Γ a v hs g) s.heap.size = A at hD hA hS ⊢
  obtain ⟨hx, hb, hml, hown, hts⟩ := id S
  have hl : lv_has ls 2 [(0, .ref (a 0))] := hl
  have L_52 : ∀ (fuel : Nat), ∀ (gg : Nat → Int32) (k : Nat) (hk : k ≤ 130) (hfk : 130 - k < fuel) (hq5 : SR (min sc 5) (ssP sc ss) gg), ∀ (H : Heap) (locs : List Loc), gP Γ [(a 0, .inr (9, [.int (v 0), .ref (a 1), .ref (a 2), .int (nI (min sc 5)), .ref (a 3), .int (v 2), .int (v 3), .int (v 4), .ref (a 4), .int (v 5), .long hs])), (a 1, .inl (Γ.2.1, 130, .inl (g 0))), (a 2, .inl (Γ.2.1, 780, .inl (wrG gg (g 0) (min sc 5) k))), (a 3, .inl (Γ.2.1, 60, .inl (g 2))), (a 4, .inl (Γ.2.1, 88, .inl (g 3)))] H → va_D A [(a 0, .inr (9, [.int (v 0), .ref (a 1), .ref (a 2), .int (nI (min sc 5)), .ref (a 3), .int (v 2), .int (v 3), .int (v 4), .ref (a 4), .int (v 5), .long hs])), (a 1, .inl (Γ.2.1, 130, .inl (g 0))), (a 2, .inl (Γ.2.1, 780, .inl (wrG gg (g 0) (min sc 5) k))), (a 3, .inl (Γ.2.1, 60, .inl (g 2))), (a 4, .inl (Γ.2.1, 88, .inl (g 3)))] → va_S A s.heap H locs → ∀ ls : Array Slot, lv_has ls 2 [(0, .ref (a 0)), (1, .int (nI k))] → W p l e rm_X9_saves s m args below meth c H locs 0 0 (MQ below (va_Qv (S := Nat → Int32) (fun u => SR (svC sc) (svS sc ss σ) u) (fun u t9 => wd Γ A ([(a 0, .inr (9, [.int (v 0), .ref (a 1), .ref (a 2), .int (nI (svC sc)), .ref (a 3), .int (v 2), .int (v 3), .int (v 4), .ref (a 4), .int (v 5), .long hs])), (a 1, .inl (Γ.2.1, 130, .inl (g 0))), (a 2, .inl (Γ.2.1, 780, .inl u)), (a 3, .inl (Γ.2.1, 60, .inl (g 2))), (a 4, .inl (Γ.2.1, 88, .inl (g 3)))]) t9) A) args s 0 0 A) (F0 m 52 ls []) := by
    intro fuel
    induction fuel with
    | zero => intro gg k hk hfk hq5; exact absurd hfk (by omega)
    | succ fuel ih_52 =>
      intro gg k hk hfk hq5 H locs hP hD hS ls hl
      refine lv_iload_n hx hb dX9_saves_52 rfl (lv_at hl 1 rfl) ?_
      refine lv_sipush (v := nI 130) hx hb dX9_saves_53 (by decide) ?_
      refine lv_icmp_ge (tgt := 86) hx hb dX9_saves_56 (by decide) (fun c_56 => ?_) (fun c_56 => ?_)
      · have n_56 := (nI_leI (a := 130) (b := k) (by omega) (by omega)).mp c_56
        rw [show k = 130 from by omega] at hP hD
        refine lv_aload_n hx hb dX9_saves_86 rfl (lv_at hl 0 rfl) ?_
        refine lv_dup hx hb dX9_saves_87 rfl ?_
        refine va_get (D := Γ.1) (ci := 9) (v := .int (nI (min sc 5))) (C := RX9) (T := TX9) (N := 11) hx hb hts (by decide +kernel) hown hK hP 0 rfl rfl 3 (by decide) (hts (.fieldLink RX9 34 "RowVeilsModel" "savedMany" "I") (by decide +kernel)) (fun _ h9 => h9) rfl dX9_saves_88 ?_
        refine lv_iconst (v := nI 1) hx hb dX9_saves_91 (by decide) ?_
        refine lv_iadd hx hb dX9_saves_92 ?_
        refine asi (z := nI (svC sc)) ((nI_add _ _).trans (congrArg nI (by unfold svC; omega))) ?_
        refine va_put (D := Γ.1) (ci := 9) (v := .int (nI (svC sc))) (ty := .int) (C := RX9) (T := TX9) (N := 11) hx hb hts (by decide +kernel) tyX9 tyX9_ok nmX9 hown hK hP hD hS 0 rfl rfl 3 (by decide) (hts (.fieldLink RX9 34 "RowVeilsModel" "savedMany" "I") (by decide +kernel)) (fun _ h9 => h9) rfl (by decide +kernel) rfl rfl (Nat.le_of_ble_eq_true rfl) dX9_saves_93 (fun H locs hP hD hS => ?_)
        have hP : gP Γ [(a 0, .inr (9, [.int (v 0), .ref (a 1), .ref (a 2), .int (nI (svC sc)), .ref (a 3), .int (v 2), .int (v 3), .int (v 4), .ref (a 4), .int (v 5), .long hs])), (a 1, .inl (Γ.2.1, 130, .inl (g 0))), (a 2, .inl (Γ.2.1, 780, .inl (wrG gg (g 0) (min sc 5) 130))), (a 3, .inl (Γ.2.1, 60, .inl (g 2))), (a 4, .inl (Γ.2.1, 88, .inl (g 3)))] H := hP
        have hD : va_D A [(a 0, .inr (9, [.int (v 0), .ref (a 1), .ref (a 2), .int (nI (svC sc)), .ref (a 3), .int (v 2), .int (v 3), .int (v 4), .ref (a 4), .int (v 5), .long hs])), (a 1, .inl (Γ.2.1, 130, .inl (g 0))), (a 2, .inl (Γ.2.1, 780, .inl (wrG gg (g 0) (min sc 5) 130))), (a 3, .inl (Γ.2.1, 60, .inl (g 2))), (a 4, .inl (Γ.2.1, 88, .inl (g 3)))] := hD
        exact W.vret hx hb hrt (fun t9 ht9 hW9 => ⟨⟨wrG gg (g 0) (min sc 5) 130, rfl, SR.sv hc6 hq5 hM hI, wd_end hK hP hD [0, 1, 2, 3, 4] (by decide) rfl t9 ht9 hW9⟩, hS.F ht9⟩) hS.2.2 dX9_saves_96 hlk
      · have n_56 := (not_congr (nI_leI (a := 130) (b := k) (by omega) (by omega))).mp c_56
        refine lv_aload_n hx hb dX9_saves_59 rfl (lv_at hl 0 rfl) ?_
        refine va_get (D := Γ.1) (ci := 9) (v := .ref (a 2)) (C := RX9) (T := TX9) (N := 11) hx hb hts (by decide +kernel) hown hK hP 0 rfl rfl 2 (by decide) (hts (.fieldLink RX9 13 "RowVeilsModel" "saved" "[I") (by decide +kernel)) (fun _ h9 => h9) rfl dX9_saves_60 ?_
        refine lv_sipush (v := nI 130) hx hb dX9_saves_63 (by decide) ?_
        refine lv_aload_n hx hb dX9_saves_66 rfl (lv_at hl 0 rfl) ?_
        refine va_get (D := Γ.1) (ci := 9) (v := .int (nI (min sc 5))) (C := RX9) (T := TX9) (N := 11) hx hb hts (by decide +kernel) hown hK hP 0 rfl rfl 3 (by decide) (hts (.fieldLink RX9 34 "RowVeilsModel" "savedMany" "I") (by decide +kernel)) (fun _ h9 => h9) rfl dX9_saves_67 ?_
        refine lv_imul hx hb dX9_saves_70 ?_
        refine asi (z := nI (130 * (min sc 5))) (pk_mul _ _) ?_
        refine lv_iload_n hx hb dX9_saves_71 rfl (lv_at hl 1 rfl) ?_
        refine lv_iadd hx hb dX9_saves_72 ?_
        refine asi (z := nI ((130 * (min sc 5)) + k)) (nI_add _ _) ?_
        refine lv_aload_n hx hb dX9_saves_73 rfl (lv_at hl 0 rfl) ?_
        refine va_get (D := Γ.1) (ci := 9) (v := .ref (a 1)) (C := RX9) (T := TX9) (N := 11) hx hb hts (by decide +kernel) hown hK hP 0 rfl rfl 1 (by decide) (hts (.fieldLink RX9 7 "RowVeilsModel" "s" "[I") (by decide +kernel)) (fun _ h9 => h9) rfl dX9_saves_74 ?_
        refine lv_iload_n hx hb dX9_saves_77 rfl (lv_at hl 1 rfl) ?_
        refine va_iald hx hb hK hP 1 0 rfl rfl (vp_in_nI (by omega) (by omega)) dX9_saves_78 ?_
        refine asi (z := (g 0) k) (congrArg _ (nI_clamp (by omega))) ?_
        refine va_iast hx hb hK hP hD hS 2 0 rfl rfl (vp_in_nI (by omega) (by omega)) dX9_saves_79 (fun H locs hP hD hS => ?_)
        have ec : (nI ((130 * (min sc 5)) + k)).toNatClampNeg = ((130 * (min sc 5)) + k) := nI_clamp (by omega)
        rw [ec] at hP hD
        clear ec
        have hP : gP Γ [(a 0, .inr (9, [.int (v 0), .ref (a 1), .ref (a 2), .int (nI (min sc 5)), .ref (a 3), .int (v 2), .int (v 3), .int (v 4), .ref (a 4), .int (v 5), .long hs])), (a 1, .inl (Γ.2.1, 130, .inl (g 0))), (a 2, .inl (Γ.2.1, 780, .inl (upd (wrG gg (g 0) (min sc 5) k) ((130 * (min sc 5)) + k) ((g 0) k)))), (a 3, .inl (Γ.2.1, 60, .inl (g 2))), (a 4, .inl (Γ.2.1, 88, .inl (g 3)))] H := hP
        have hD : va_D A [(a 0, .inr (9, [.int (v 0), .ref (a 1), .ref (a 2), .int (nI (min sc 5)), .ref (a 3), .int (v 2), .int (v 3), .int (v 4), .ref (a 4), .int (v 5), .long hs])), (a 1, .inl (Γ.2.1, 130, .inl (g 0))), (a 2, .inl (Γ.2.1, 780, .inl (upd (wrG gg (g 0) (min sc 5) k) ((130 * (min sc 5)) + k) ((g 0) k)))), (a 3, .inl (Γ.2.1, 60, .inl (g 2))), (a 4, .inl (Γ.2.1, 88, .inl (g 3)))] := hD
        have ef : upd (wrG gg (g 0) (min sc 5) k) ((130 * (min sc 5)) + k) ((g 0) k) = wrG gg (g 0) (min sc 5) (k + 1) := wrG_s gg (g 0) (min sc 5) k
        rw [ef] at hP hD
        clear ef
        have hP : gP Γ [(a 0, .inr (9, [.int (v 0), .ref (a 1), .ref (a 2), .int (nI (min sc 5)), .ref (a 3), .int (v 2), .int (v 3), .int (v 4), .ref (a 4), .int (v 5), .long hs])), (a 1, .inl (Γ.2.1, 130, .inl (g 0))), (a 2, .inl (Γ.2.1, 780, .inl (wrG gg (g 0) (min sc 5) (k + 1)))), (a 3, .inl (Γ.2.1, 60, .inl (g 2))), (a 4, .inl (Γ.2.1, 88, .inl (g 3)))] H := hP
        have hD : va_D A [(a 0, .inr (9, [.int (v 0), .ref (a 1), .ref (a 2), .int (nI (min sc 5)), .ref (a 3), .int (v 2), .int (v 3), .int (v 4), .ref (a 4), .int (v 5), .long hs])), (a 1, .inl (Γ.2.1, 130, .inl (g 0))), (a 2, .inl (Γ.2.1, 780, .inl (wrG gg (g 0) (min sc 5) (k + 1)))), (a 3, .inl (Γ.2.1, 60, .inl (g 2))), (a 4, .inl (Γ.2.1, 88, .inl (g 3)))] := hD
        refine lv_iinc (v := nI (k + 1)) (lv' := [(1, .int (nI (k + 1))), (0, .ref (a 0))]) hx hb dX9_saves_80 hl (k := 1) rfl (nI_add _ _) (by decide) rfl (fun ls hl => ?_)
        refine lv_goto (tgt := 52) hx hb dX9_saves_83 (by decide) ?_
        exact ih_52 gg (k + 1) (by omega) (by omega) hq5 _ _ hP hD hS ls (lv_sub hl [1, 0] rfl)
  have L_11 : ∀ (fuel : Nat), ∀ (k : Nat) (hk : k ≤ 650) (hfk : 650 - k < fuel) (n_6 : sc = 6), ∀ (H : Heap) (locs : List Loc), gP Γ [(a 0, .inr (9, [.int (v 0), .ref (a 1), .ref (a 2), .int (nI sc), .ref (a 3), .int (v 2), .int (v 3), .int (v 4), .ref (a 4), .int (v 5), .long hs])), (a 1, .inl (Γ.2.1, 130, .inl (g 0))), (a 2, .inl (Γ.2.1, 780, .inl (shG (g 1) k))), (a 3, .inl (Γ.2.1, 60, .inl (g 2))), (a 4, .inl (Γ.2.1, 88, .inl (g 3)))] H → va_D A [(a 0, .inr (9, [.int (v 0), .ref (a 1), .ref (a 2), .int (nI sc), .ref (a 3), .int (v 2), .int (v 3), .int (v 4), .ref (a 4), .int (v 5), .long hs])), (a 1, .inl (Γ.2.1, 130, .inl (g 0))), (a 2, .inl (Γ.2.1, 780, .inl (shG (g 1) k))), (a 3, .inl (Γ.2.1, 60, .inl (g 2))), (a 4, .inl (Γ.2.1, 88, .inl (g 3)))] → va_S A s.heap H locs → ∀ ls : Array Slot, lv_has ls 2 [(0, .ref (a 0)), (1, .int (nI k))] → W p l e rm_X9_saves s m args below meth c H locs 0 0 (MQ below (va_Qv (S := Nat → Int32) (fun u => SR (svC sc) (svS sc ss σ) u) (fun u t9 => wd Γ A ([(a 0, .inr (9, [.int (v 0), .ref (a 1), .ref (a 2), .int (nI (svC sc)), .ref (a 3), .int (v 2), .int (v 3), .int (v 4), .ref (a 4), .int (v 5), .long hs])), (a 1, .inl (Γ.2.1, 130, .inl (g 0))), (a 2, .inl (Γ.2.1, 780, .inl u)), (a 3, .inl (Γ.2.1, 60, .inl (g 2))), (a 4, .inl (Γ.2.1, 88, .inl (g 3)))]) t9) A) args s 0 0 A) (F0 m 11 ls []) := by
    intro fuel
    induction fuel with
    | zero => intro k hk hfk n_6; exact absurd hfk (by omega)
    | succ fuel ih_11 =>
      intro k hk hfk n_6 H locs hP hD hS ls hl
      refine lv_iload_n hx hb dX9_saves_11 rfl (lv_at hl 1 rfl) ?_
      refine lv_sipush (v := nI 650) hx hb dX9_saves_12 (by decide) ?_
      refine lv_icmp_ge (tgt := 40) hx hb dX9_saves_15 (by decide) (fun c_15 => ?_) (fun c_15 => ?_)
      · have n_15 := (nI_leI (a := 650) (b := k) (by omega) (by omega)).mp c_15
        rw [show k = 650 from by omega] at hP hD
        refine lv_aload_n hx hb dX9_saves_40 rfl (lv_at hl 0 rfl) ?_
        refine lv_dup hx hb dX9_saves_41 rfl ?_
        refine va_get (D := Γ.1) (ci := 9) (v := .int (nI sc)) (C := RX9) (T := TX9) (N := 11) hx hb hts (by decide +kernel) hown hK hP 0 rfl rfl 3 (by decide) (hts (.fieldLink RX9 34 "RowVeilsModel" "savedMany" "I") (by decide +kernel)) (fun _ h9 => h9) rfl dX9_saves_42 ?_
        refine lv_iconst (v := nI 1) hx hb dX9_saves_45 (by decide) ?_
        refine lv_isub hx hb dX9_saves_46 ?_
        refine asi (z := nI (min sc 5)) (by rw [n_6]; decide) ?_
        refine va_put (D := Γ.1) (ci := 9) (v := .int (nI (min sc 5))) (ty := .int) (C := RX9) (T := TX9) (N := 11) hx hb hts (by decide +kernel) tyX9 tyX9_ok nmX9 hown hK hP hD hS 0 rfl rfl 3 (by decide) (hts (.fieldLink RX9 34 "RowVeilsModel" "savedMany" "I") (by decide +kernel)) (fun _ h9 => h9) rfl (by decide +kernel) rfl rfl (Nat.le_of_ble_eq_true rfl) dX9_saves_47 (fun H locs hP hD hS => ?_)
        have hP : gP Γ [(a 0, .inr (9, [.int (v 0), .ref (a 1), .ref (a 2), .int (nI (min sc 5)), .ref (a 3), .int (v 2), .int (v 3), .int (v 4), .ref (a 4), .int (v 5), .long hs])), (a 1, .inl (Γ.2.1, 130, .inl (g 0))), (a 2, .inl (Γ.2.1, 780, .inl (shG (g 1) 650))), (a 3, .inl (Γ.2.1, 60, .inl (g 2))), (a 4, .inl (Γ.2.1, 88, .inl (g 3)))] H := hP
        have hD : va_D A [(a 0, .inr (9, [.int (v 0), .ref (a 1), .ref (a 2), .int (nI (min sc 5)), .ref (a 3), .int (v 2), .int (v 3), .int (v 4), .ref (a 4), .int (v 5), .long hs])), (a 1, .inl (Γ.2.1, 130, .inl (g 0))), (a 2, .inl (Γ.2.1, 780, .inl (shG (g 1) 650))), (a 3, .inl (Γ.2.1, 60, .inl (g 2))), (a 4, .inl (Γ.2.1, 88, .inl (g 3)))] := hD
        have hP : gP Γ [(a 0, .inr (9, [.int (v 0), .ref (a 1), .ref (a 2), .int (nI (min sc 5)), .ref (a 3), .int (v 2), .int (v 3), .int (v 4), .ref (a 4), .int (v 5), .long hs])), (a 1, .inl (Γ.2.1, 130, .inl (g 0))), (a 2, .inl (Γ.2.1, 780, .inl (wrG (shG (g 1) 650) (g 0) (min sc 5) 0))), (a 3, .inl (Γ.2.1, 60, .inl (g 2))), (a 4, .inl (Γ.2.1, 88, .inl (g 3)))] H := by rw [wrG_0]; exact hP
        have hD : va_D A [(a 0, .inr (9, [.int (v 0), .ref (a 1), .ref (a 2), .int (nI (min sc 5)), .ref (a 3), .int (v 2), .int (v 3), .int (v 4), .ref (a 4), .int (v 5), .long hs])), (a 1, .inl (Γ.2.1, 130, .inl (g 0))), (a 2, .inl (Γ.2.1, 780, .inl (wrG (shG (g 1) 650) (g 0) (min sc 5) 0))), (a 3, .inl (Γ.2.1, 60, .inl (g 2))), (a 4, .inl (Γ.2.1, 88, .inl (g 3)))] := by rw [wrG_0]; exact hD
        have hq5 : SR (min sc 5) (ssP sc ss) (shG (g 1) 650) := by unfold ssP; rw [if_pos n_6, show min sc 5 = 5 from by omega]; rw [n_6] at hSR; exact hSR.sh
        refine lv_iconst (v := nI 0) hx hb dX9_saves_50 (by decide) ?_
        refine lv_istore_n (lv' := [(1, .int (nI 0)), (0, .ref (a 0))]) hx hb dX9_saves_51 rfl hl (by decide) rfl (fun ls hl => ?_)
        exact L_52 131 (shG (g 1) 650) 0 (by omega) (by omega) hq5 _ _ hP hD hS ls (lv_sub hl [1, 0] rfl)
      · have n_15 := (not_congr (nI_leI (a := 650) (b := k) (by omega) (by omega))).mp c_15
        refine lv_aload_n hx hb dX9_saves_18 rfl (lv_at hl 0 rfl) ?_
        refine va_get (D := Γ.1) (ci := 9) (v := .ref (a 2)) (C := RX9) (T := TX9) (N := 11) hx hb hts (by decide +kernel) hown hK hP 0 rfl rfl 2 (by decide) (hts (.fieldLink RX9 13 "RowVeilsModel" "saved" "[I") (by decide +kernel)) (fun _ h9 => h9) rfl dX9_saves_19 ?_
        refine lv_iload_n hx hb dX9_saves_22 rfl (lv_at hl 1 rfl) ?_
        refine lv_aload_n hx hb dX9_saves_23 rfl (lv_at hl 0 rfl) ?_
        refine va_get (D := Γ.1) (ci := 9) (v := .ref (a 2)) (C := RX9) (T := TX9) (N := 11) hx hb hts (by decide +kernel) hown hK hP 0 rfl rfl 2 (by decide) (hts (.fieldLink RX9 13 "RowVeilsModel" "saved" "[I") (by decide +kernel)) (fun _ h9 => h9) rfl dX9_saves_24 ?_
        refine lv_iload_n hx hb dX9_saves_27 rfl (lv_at hl 1 rfl) ?_
        refine lv_sipush (v := nI 130) hx hb dX9_saves_28 (by decide) ?_
        refine lv_iadd hx hb dX9_saves_31 ?_
        refine asi (z := nI (k + 130)) (nI_add _ _) ?_
        refine va_iald hx hb hK hP 2 0 rfl rfl (vp_in_nI (by omega) (by omega)) dX9_saves_32 ?_
        refine asi (z := (shG (g 1) k) (k + 130)) (congrArg _ (nI_clamp (by omega))) ?_
        refine va_iast hx hb hK hP hD hS 2 0 rfl rfl (vp_in_nI (by omega) (by omega)) dX9_saves_33 (fun H locs hP hD hS => ?_)
        have ec : (nI k).toNatClampNeg = k := nI_clamp (by omega)
        rw [ec] at hP hD
        clear ec
        have hP : gP Γ [(a 0, .inr (9, [.int (v 0), .ref (a 1), .ref (a 2), .int (nI sc), .ref (a 3), .int (v 2), .int (v 3), .int (v 4), .ref (a 4), .int (v 5), .long hs])), (a 1, .inl (Γ.2.1, 130, .inl (g 0))), (a 2, .inl (Γ.2.1, 780, .inl (upd (shG (g 1) k) k ((shG (g 1) k) (k + 130))))), (a 3, .inl (Γ.2.1, 60, .inl (g 2))), (a 4, .inl (Γ.2.1, 88, .inl (g 3)))] H := hP
        have hD : va_D A [(a 0, .inr (9, [.int (v 0), .ref (a 1), .ref (a 2), .int (nI sc), .ref (a 3), .int (v 2), .int (v 3), .int (v 4), .ref (a 4), .int (v 5), .long hs])), (a 1, .inl (Γ.2.1, 130, .inl (g 0))), (a 2, .inl (Γ.2.1, 780, .inl (upd (shG (g 1) k) k ((shG (g 1) k) (k + 130))))), (a 3, .inl (Γ.2.1, 60, .inl (g 2))), (a 4, .inl (Γ.2.1, 88, .inl (g 3)))] := hD
        have ef : upd (shG (g 1) k) k ((shG (g 1) k) (k + 130)) = shG (g 1) (k + 1) := shG_s (g 1) k
        rw [ef] at hP hD
        clear ef
        have hP : gP Γ [(a 0, .inr (9, [.int (v 0), .ref (a 1), .ref (a 2), .int (nI sc), .ref (a 3), .int (v 2), .int (v 3), .int (v 4), .ref (a 4), .int (v 5), .long hs])), (a 1, .inl (Γ.2.1, 130, .inl (g 0))), (a 2, .inl (Γ.2.1, 780, .inl (shG (g 1) (k + 1)))), (a 3, .inl (Γ.2.1, 60, .inl (g 2))), (a 4, .inl (Γ.2.1, 88, .inl (g 3)))] H := hP
        have hD : va_D A [(a 0, .inr (9, [.int (v 0), .ref (a 1), .ref (a 2), .int (nI sc), .ref (a 3), .int (v 2), .int (v 3), .int (v 4), .ref (a 4), .int (v 5), .long hs])), (a 1, .inl (Γ.2.1, 130, .inl (g 0))), (a 2, .inl (Γ.2.1, 780, .inl (shG (g 1) (k + 1)))), (a 3, .inl (Γ.2.1, 60, .inl (g 2))), (a 4, .inl (Γ.2.1, 88, .inl (g 3)))] := hD
        refine lv_iinc (v := nI (k + 1)) (lv' := [(1, .int (nI (k + 1))), (0, .ref (a 0))]) hx hb dX9_saves_34 hl (k := 1) rfl (nI_add _ _) (by decide) rfl (fun ls hl => ?_)
        refine lv_goto (tgt := 11) hx hb dX9_saves_37 (by decide) ?_
        exact ih_11 (k + 1) (by omega) (by omega) n_6 _ _ hP hD hS ls (lv_sub hl [1, 0] rfl)
  have hH : s.heap = s.heap := rfl
  have hP : gP Γ [(a 0, .inr (9, [.int (v 0), .ref (a 1), .ref (a 2), .int (nI sc), .ref (a 3), .int (v 2), .int (v 3), .int (v 4), .ref (a 4), .int (v 5), .long hs])), (a 1, .inl (Γ.2.1, 130, .inl (g 0))), (a 2, .inl (Γ.2.1, 780, .inl (g 1))), (a 3, .inl (Γ.2.1, 60, .inl (g 2))), (a 4, .inl (Γ.2.1, 88, .inl (g 3)))] s.heap := by rw [← h1]; exact hP
  have hD : va_D A [(a 0, .inr (9, [.int (v 0), .ref (a 1), .ref (a 2), .int (nI sc), .ref (a 3), .int (v 2), .int (v 3), .int (v 4), .ref (a 4), .int (v 5), .long hs])), (a 1, .inl (Γ.2.1, 130, .inl (g 0))), (a 2, .inl (Γ.2.1, 780, .inl (g 1))), (a 3, .inl (Γ.2.1, 60, .inl (g 2))), (a 4, .inl (Γ.2.1, 88, .inl (g 3)))] := by rw [← h1]; exact hD
  refine lv_aload_n hx hb dX9_saves_0 rfl (lv_at hl 0 rfl) ?_
  refine va_get (D := Γ.1) (ci := 9) (v := .int (nI sc)) (C := RX9) (T := TX9) (N := 11) hx hb hts (by decide +kernel) hown hK hP 0 rfl rfl 3 (by decide) (hts (.fieldLink RX9 34 "RowVeilsModel" "savedMany" "I") (by decide +kernel)) (fun _ h9 => h9) rfl dX9_saves_1 ?_
  refine lv_bipush (v := nI 6) hx hb dX9_saves_4 (by decide) ?_
  refine lv_icmp_ne (tgt := 50) hx hb dX9_saves_6 (by decide) (fun c_6 => ?_) (fun c_6 => ?_)
  · have n_6 := (not_congr (nI_eq (a := sc) (b := 6) (by omega) (by omega))).mp c_6
    have hP : gP Γ [(a 0, .inr (9, [.int (v 0), .ref (a 1), .ref (a 2), .int (nI (min sc 5)), .ref (a 3), .int (v 2), .int (v 3), .int (v 4), .ref (a 4), .int (v 5), .long hs])), (a 1, .inl (Γ.2.1, 130, .inl (g 0))), (a 2, .inl (Γ.2.1, 780, .inl (wrG (g 1) (g 0) (min sc 5) 0))), (a 3, .inl (Γ.2.1, 60, .inl (g 2))), (a 4, .inl (Γ.2.1, 88, .inl (g 3)))] s.heap := by rw [wrG_0]; rw [show min sc 5 = sc from by omega]; exact hP
    have hD : va_D A [(a 0, .inr (9, [.int (v 0), .ref (a 1), .ref (a 2), .int (nI (min sc 5)), .ref (a 3), .int (v 2), .int (v 3), .int (v 4), .ref (a 4), .int (v 5), .long hs])), (a 1, .inl (Γ.2.1, 130, .inl (g 0))), (a 2, .inl (Γ.2.1, 780, .inl (wrG (g 1) (g 0) (min sc 5) 0))), (a 3, .inl (Γ.2.1, 60, .inl (g 2))), (a 4, .inl (Γ.2.1, 88, .inl (g 3)))] := by rw [wrG_0]; rw [show min sc 5 = sc from by omega]; exact hD
    have hq5 : SR (min sc 5) (ssP sc ss) (g 1) := by unfold ssP; rw [if_neg n_6, show min sc 5 = sc from by omega]; exact hSR
    refine lv_iconst (v := nI 0) hx hb dX9_saves_50 (by decide) ?_
    refine lv_istore_n (lv' := [(1, .int (nI 0)), (0, .ref (a 0))]) hx hb dX9_saves_51 rfl hl (by decide) rfl (fun ls hl => ?_)
    exact L_52 131 (g 1) 0 (by omega) (by omega) hq5 _ _ hP hD hS ls (lv_sub hl [1, 0] rfl)
  · have n_6 := (nI_eq (a := sc) (b := 6) (by omega) (by omega)).mp c_6
    have hP : gP Γ [(a 0, .inr (9, [.int (v 0), .ref (a 1), .ref (a 2), .int (nI sc), .ref (a 3), .int (v 2), .int (v 3), .int (v 4), .ref (a 4), .int (v 5), .long hs])), (a 1, .inl (Γ.2.1, 130, .inl (g 0))), (a 2, .inl (Γ.2.1, 780, .inl (shG (g 1) 0))), (a 3, .inl (Γ.2.1, 60, .inl (g 2))), (a 4, .inl (Γ.2.1, 88, .inl (g 3)))] s.heap := by rw [shG_0]; exact hP
    have hD : va_D A [(a 0, .inr (9, [.int (v 0), .ref (a 1), .ref (a 2), .int (nI sc), .ref (a 3), .int (v 2), .int (v 3), .int (v 4), .ref (a 4), .int (v 5), .long hs])), (a 1, .inl (Γ.2.1, 130, .inl (g 0))), (a 2, .inl (Γ.2.1, 780, .inl (shG (g 1) 0))), (a 3, .inl (Γ.2.1, 60, .inl (g 2))), (a 4, .inl (Γ.2.1, 88, .inl (g 3)))] := by rw [shG_0]; exact hD
    refine lv_iconst (v := nI 0) hx hb dX9_saves_9 (by decide) ?_
    refine lv_istore_n (lv' := [(1, .int (nI 0)), (0, .ref (a 0))]) hx hb dX9_saves_10 rfl hl (by decide) rfl (fun ls hl => ?_)
    exact L_11 651 0 (by omega) (by omega) n_6 _ _ hP hD hS ls (lv_sub hl [1, 0] rfl)

abbrev rm_X9_adds : Room := { frames := 0, cells := 0, slots := 0, locals := 0 }
theorem k_X9_adds : Cal yX9_adds wsX9_adds rm_X9_adds cX9_adds 6 none 4 0 0 := ⟨⟨_, rfl⟩, rfl, rfl, by decide +kernel⟩
set_option maxHeartbeats 4000000 in
set_option maxRecDepth 100000 in
theorem m_X9_adds (l : Launch) (Γ : Gm) (sz : Nat) (a : Nat → Nat) (v : Nat → Int32) (hs : Int64) (g : Nat → Nat → Int32) (σ : Nat → Nat) (hM : RepM σ (g 0)) (hI : Inv σ) (o pl vv ww : Nat) (hn : σ 0 < 16) : MWv (S := Nat → Int32) l yX9_adds wsX9_adds rm_X9_adds Γ sz (wMd Γ a v hs g) [.ref (a 0), .int (nI o), .int (nI pl), .int (nI vv), .int (nI ww)] (fun u => RepM (rowS σ o pl vv ww) u) (fun u => [(a 0, .inr (9, [.int (v 0), .ref (a 1), .ref (a 2), .int (v 1), .ref (a 3), .int (v 2), .int (v 3), .int (v 4), .ref (a 4), .int (v 5), .long hs])), (a 1, .inl (Γ.2.1, 130, .inl u)), (a 2, .inl (Γ.2.1, 780, .inl (g 1))), (a 3, .inl (Γ.2.1, 60, .inl (g 2))), (a 4, .inl (Γ.2.1, 88, .inl (g 3)))]) 0 0 := by
  refine mW (cc := cX9_adds) (maxL := 6) (ret := none) (own := RX9) (by decide) rfl rfl (Nat.le_of_ble_eq_true rfl) ?_
  intro p e s m args below meth c S hrt hlk hin hsz hK hP hD hA hS ls hl
  subst hsz
  generalize hAe : va_A (wMd Γ a v hs g) s.heap.size = A at hD hA hS ⊢
  obtain ⟨hx, hb, hml, hown, hts⟩ := id S
  have hl : lv_has ls 6 [(0, .ref (a 0)), (1, .int (nI o)), (2, .int (nI pl)), (3, .int (nI vv)), (4, .int (nI ww))] := hl
  have hH : s.heap = s.heap := rfl
  refine lv_bipush (v := nI 6) hx hb dX9_adds_0 (by decide) ?_
  refine lv_iconst (v := nI 4) hx hb dX9_adds_2 (by decide) ?_
  refine lv_aload_n hx hb dX9_adds_3 rfl (lv_at hl 0 rfl) ?_
  refine va_get (D := Γ.1) (ci := 9) (v := .ref (a 1)) (C := RX9) (T := TX9) (N := 11) hx hb hts (by decide +kernel) hown hK hP 0 rfl rfl 1 (by decide) (hts (.fieldLink RX9 7 "RowVeilsModel" "s" "[I") (by decide +kernel)) (fun _ h9 => h9) rfl dX9_adds_4 ?_
  refine lv_iconst (v := nI 0) hx hb dX9_adds_7 (by decide) ?_
  refine va_iald hx hb hK hP 1 0 rfl rfl (vp_in_nI (by omega) (by omega)) dX9_adds_8 ?_
  refine asi (z := nI (σ 0)) ((congrArg _ (nI_clamp (by omega))).trans (hM 0 (by decide))) ?_
  refine lv_imul hx hb dX9_adds_9 ?_
  refine asi (z := nI (4 * (σ 0))) (pk_mul _ _) ?_
  refine lv_iadd hx hb dX9_adds_10 ?_
  refine asi (z := nI (6 + (4 * (σ 0)))) (nI_add _ _) ?_
  refine lv_istore (lv' := [(5, .int (nI (6 + (4 * (σ 0))))), (0, .ref (a 0)), (1, .int (nI o)), (2, .int (nI pl)), (3, .int (nI vv)), (4, .int (nI ww))]) hx hb dX9_adds_11 hl (by decide) rfl (fun ls hl => ?_)
  refine lv_aload_n hx hb dX9_adds_13 rfl (lv_at hl 1 rfl) ?_
  refine va_get (D := Γ.1) (ci := 9) (v := .ref (a 1)) (C := RX9) (T := TX9) (N := 11) hx hb hts (by decide +kernel) hown hK hP 0 rfl rfl 1 (by decide) (hts (.fieldLink RX9 7 "RowVeilsModel" "s" "[I") (by decide +kernel)) (fun _ h9 => h9) rfl dX9_adds_14 ?_
  refine lv_iload hx hb dX9_adds_17 (lv_at hl 0 rfl) ?_
  refine lv_iconst (v := nI 0) hx hb dX9_adds_19 (by decide) ?_
  refine lv_iadd hx hb dX9_adds_20 ?_
  refine asi (z := nI ((6 + (4 * (σ 0))) + 0)) (nI_add _ _) ?_
  refine lv_iload_n hx hb dX9_adds_21 rfl (lv_at hl 2 rfl) ?_
  refine va_iast hx hb hK hP hD hS 1 0 rfl rfl (vp_in_nI (by omega) (by omega)) dX9_adds_22 (fun H locs hP hD hS => ?_)
  have ec : (nI ((6 + (4 * (σ 0))) + 0)).toNatClampNeg = ((6 + (4 * (σ 0))) + 0) := nI_clamp (by omega)
  rw [ec] at hP hD
  clear ec
  have hP : gP Γ [(a 0, .inr (9, [.int (v 0), .ref (a 1), .ref (a 2), .int (v 1), .ref (a 3), .int (v 2), .int (v 3), .int (v 4), .ref (a 4), .int (v 5), .long hs])), (a 1, .inl (Γ.2.1, 130, .inl (upd (g 0) ((6 + (4 * (σ 0))) + 0) (nI o)))), (a 2, .inl (Γ.2.1, 780, .inl (g 1))), (a 3, .inl (Γ.2.1, 60, .inl (g 2))), (a 4, .inl (Γ.2.1, 88, .inl (g 3)))] H := hP
  have hD : va_D A [(a 0, .inr (9, [.int (v 0), .ref (a 1), .ref (a 2), .int (v 1), .ref (a 3), .int (v 2), .int (v 3), .int (v 4), .ref (a 4), .int (v 5), .long hs])), (a 1, .inl (Γ.2.1, 130, .inl (upd (g 0) ((6 + (4 * (σ 0))) + 0) (nI o)))), (a 2, .inl (Γ.2.1, 780, .inl (g 1))), (a 3, .inl (Γ.2.1, 60, .inl (g 2))), (a 4, .inl (Γ.2.1, 88, .inl (g 3)))] := hD
  refine lv_aload_n hx hb dX9_adds_23 rfl (lv_at hl 1 rfl) ?_
  refine va_get (D := Γ.1) (ci := 9) (v := .ref (a 1)) (C := RX9) (T := TX9) (N := 11) hx hb hts (by decide +kernel) hown hK hP 0 rfl rfl 1 (by decide) (hts (.fieldLink RX9 7 "RowVeilsModel" "s" "[I") (by decide +kernel)) (fun _ h9 => h9) rfl dX9_adds_24 ?_
  refine lv_iload hx hb dX9_adds_27 (lv_at hl 0 rfl) ?_
  refine lv_iconst (v := nI 1) hx hb dX9_adds_29 (by decide) ?_
  refine lv_iadd hx hb dX9_adds_30 ?_
  refine asi (z := nI ((6 + (4 * (σ 0))) + 1)) (nI_add _ _) ?_
  refine lv_iload_n hx hb dX9_adds_31 rfl (lv_at hl 3 rfl) ?_
  refine va_iast hx hb hK hP hD hS 1 0 rfl rfl (vp_in_nI (by omega) (by omega)) dX9_adds_32 (fun H locs hP hD hS => ?_)
  have ec : (nI ((6 + (4 * (σ 0))) + 1)).toNatClampNeg = ((6 + (4 * (σ 0))) + 1) := nI_clamp (by omega)
  rw [ec] at hP hD
  clear ec
  have hP : gP Γ [(a 0, .inr (9, [.int (v 0), .ref (a 1), .ref (a 2), .int (v 1), .ref (a 3), .int (v 2), .int (v 3), .int (v 4), .ref (a 4), .int (v 5), .long hs])), (a 1, .inl (Γ.2.1, 130, .inl (upd (upd (g 0) ((6 + (4 * (σ 0))) + 0) (nI o)) ((6 + (4 * (σ 0))) + 1) (nI pl)))), (a 2, .inl (Γ.2.1, 780, .inl (g 1))), (a 3, .inl (Γ.2.1, 60, .inl (g 2))), (a 4, .inl (Γ.2.1, 88, .inl (g 3)))] H := hP
  have hD : va_D A [(a 0, .inr (9, [.int (v 0), .ref (a 1), .ref (a 2), .int (v 1), .ref (a 3), .int (v 2), .int (v 3), .int (v 4), .ref (a 4), .int (v 5), .long hs])), (a 1, .inl (Γ.2.1, 130, .inl (upd (upd (g 0) ((6 + (4 * (σ 0))) + 0) (nI o)) ((6 + (4 * (σ 0))) + 1) (nI pl)))), (a 2, .inl (Γ.2.1, 780, .inl (g 1))), (a 3, .inl (Γ.2.1, 60, .inl (g 2))), (a 4, .inl (Γ.2.1, 88, .inl (g 3)))] := hD
  refine lv_aload_n hx hb dX9_adds_33 rfl (lv_at hl 1 rfl) ?_
  refine va_get (D := Γ.1) (ci := 9) (v := .ref (a 1)) (C := RX9) (T := TX9) (N := 11) hx hb hts (by decide +kernel) hown hK hP 0 rfl rfl 1 (by decide) (hts (.fieldLink RX9 7 "RowVeilsModel" "s" "[I") (by decide +kernel)) (fun _ h9 => h9) rfl dX9_adds_34 ?_
  refine lv_iload hx hb dX9_adds_37 (lv_at hl 0 rfl) ?_
  refine lv_iconst (v := nI 2) hx hb dX9_adds_39 (by decide) ?_
  refine lv_iadd hx hb dX9_adds_40 ?_
  refine asi (z := nI ((6 + (4 * (σ 0))) + 2)) (nI_add _ _) ?_
  refine lv_iload_n hx hb dX9_adds_41 rfl (lv_at hl 4 rfl) ?_
  refine va_iast hx hb hK hP hD hS 1 0 rfl rfl (vp_in_nI (by omega) (by omega)) dX9_adds_42 (fun H locs hP hD hS => ?_)
  have ec : (nI ((6 + (4 * (σ 0))) + 2)).toNatClampNeg = ((6 + (4 * (σ 0))) + 2) := nI_clamp (by omega)
  rw [ec] at hP hD
  clear ec
  have hP : gP Γ [(a 0, .inr (9, [.int (v 0), .ref (a 1), .ref (a 2), .int (v 1), .ref (a 3), .int (v 2), .int (v 3), .int (v 4), .ref (a 4), .int (v 5), .long hs])), (a 1, .inl (Γ.2.1, 130, .inl (upd (upd (upd (g 0) ((6 + (4 * (σ 0))) + 0) (nI o)) ((6 + (4 * (σ 0))) + 1) (nI pl)) ((6 + (4 * (σ 0))) + 2) (nI vv)))), (a 2, .inl (Γ.2.1, 780, .inl (g 1))), (a 3, .inl (Γ.2.1, 60, .inl (g 2))), (a 4, .inl (Γ.2.1, 88, .inl (g 3)))] H := hP
  have hD : va_D A [(a 0, .inr (9, [.int (v 0), .ref (a 1), .ref (a 2), .int (v 1), .ref (a 3), .int (v 2), .int (v 3), .int (v 4), .ref (a 4), .int (v 5), .long hs])), (a 1, .inl (Γ.2.1, 130, .inl (upd (upd (upd (g 0) ((6 + (4 * (σ 0))) + 0) (nI o)) ((6 + (4 * (σ 0))) + 1) (nI pl)) ((6 + (4 * (σ 0))) + 2) (nI vv)))), (a 2, .inl (Γ.2.1, 780, .inl (g 1))), (a 3, .inl (Γ.2.1, 60, .inl (g 2))), (a 4, .inl (Γ.2.1, 88, .inl (g 3)))] := hD
  refine lv_aload_n hx hb dX9_adds_43 rfl (lv_at hl 1 rfl) ?_
  refine va_get (D := Γ.1) (ci := 9) (v := .ref (a 1)) (C := RX9) (T := TX9) (N := 11) hx hb hts (by decide +kernel) hown hK hP 0 rfl rfl 1 (by decide) (hts (.fieldLink RX9 7 "RowVeilsModel" "s" "[I") (by decide +kernel)) (fun _ h9 => h9) rfl dX9_adds_44 ?_
  refine lv_iload hx hb dX9_adds_47 (lv_at hl 0 rfl) ?_
  refine lv_iconst (v := nI 3) hx hb dX9_adds_49 (by decide) ?_
  refine lv_iadd hx hb dX9_adds_50 ?_
  refine asi (z := nI ((6 + (4 * (σ 0))) + 3)) (nI_add _ _) ?_
  refine lv_iload hx hb dX9_adds_51 (lv_at hl 5 rfl) ?_
  refine va_iast hx hb hK hP hD hS 1 0 rfl rfl (vp_in_nI (by omega) (by omega)) dX9_adds_53 (fun H locs hP hD hS => ?_)
  have ec : (nI ((6 + (4 * (σ 0))) + 3)).toNatClampNeg = ((6 + (4 * (σ 0))) + 3) := nI_clamp (by omega)
  rw [ec] at hP hD
  clear ec
  have hP : gP Γ [(a 0, .inr (9, [.int (v 0), .ref (a 1), .ref (a 2), .int (v 1), .ref (a 3), .int (v 2), .int (v 3), .int (v 4), .ref (a 4), .int (v 5), .long hs])), (a 1, .inl (Γ.2.1, 130, .inl (upd (upd (upd (upd (g 0) ((6 + (4 * (σ 0))) + 0) (nI o)) ((6 + (4 * (σ 0))) + 1) (nI pl)) ((6 + (4 * (σ 0))) + 2) (nI vv)) ((6 + (4 * (σ 0))) + 3) (nI ww)))), (a 2, .inl (Γ.2.1, 780, .inl (g 1))), (a 3, .inl (Γ.2.1, 60, .inl (g 2))), (a 4, .inl (Γ.2.1, 88, .inl (g 3)))] H := hP
  have hD : va_D A [(a 0, .inr (9, [.int (v 0), .ref (a 1), .ref (a 2), .int (v 1), .ref (a 3), .int (v 2), .int (v 3), .int (v 4), .ref (a 4), .int (v 5), .long hs])), (a 1, .inl (Γ.2.1, 130, .inl (upd (upd (upd (upd (g 0) ((6 + (4 * (σ 0))) + 0) (nI o)) ((6 + (4 * (σ 0))) + 1) (nI pl)) ((6 + (4 * (σ 0))) + 2) (nI vv)) ((6 + (4 * (σ 0))) + 3) (nI ww)))), (a 2, .inl (Γ.2.1, 780, .inl (g 1))), (a 3, .inl (Γ.2.1, 60, .inl (g 2))), (a 4, .inl (Γ.2.1, 88, .inl (g 3)))] := hD
  refine lv_aload_n hx hb dX9_adds_54 rfl (lv_at hl 1 rfl) ?_
  refine va_get (D := Γ.1) (ci := 9) (v := .ref (a 1)) (C := RX9) (T := TX9) (N := 11) hx hb hts (by decide +kernel) hown hK hP 0 rfl rfl 1 (by decide) (hts (.fieldLink RX9 7 "RowVeilsModel" "s" "[I") (by decide +kernel)) (fun _ h9 => h9) rfl dX9_adds_55 ?_
  refine lv_iconst (v := nI 0) hx hb dX9_adds_58 (by decide) ?_
  refine lv_dup2_11 hx hb dX9_adds_59 rfl rfl ?_
  refine va_iald hx hb hK hP 1 0 rfl rfl (vp_in_nI (by omega) (by omega)) dX9_adds_60 ?_
  refine asi (z := nI (σ 0)) ((congrArg _ (nI_clamp (by omega))).trans ((up_f (by omega)).trans ((up_f (by omega)).trans ((up_f (by omega)).trans ((up_f (by omega)).trans (hM 0 (by decide))))))) ?_
  refine lv_iconst (v := nI 1) hx hb dX9_adds_61 (by decide) ?_
  refine lv_iadd hx hb dX9_adds_62 ?_
  refine asi (z := nI ((σ 0) + 1)) (nI_add _ _) ?_
  refine va_iast hx hb hK hP hD hS 1 0 rfl rfl (vp_in_nI (by omega) (by omega)) dX9_adds_63 (fun H locs hP hD hS => ?_)
  have ec : (nI 0).toNatClampNeg = 0 := nI_clamp (by omega)
  rw [ec] at hP hD
  clear ec
  have hP : gP Γ [(a 0, .inr (9, [.int (v 0), .ref (a 1), .ref (a 2), .int (v 1), .ref (a 3), .int (v 2), .int (v 3), .int (v 4), .ref (a 4), .int (v 5), .long hs])), (a 1, .inl (Γ.2.1, 130, .inl (upd (upd (upd (upd (upd (g 0) ((6 + (4 * (σ 0))) + 0) (nI o)) ((6 + (4 * (σ 0))) + 1) (nI pl)) ((6 + (4 * (σ 0))) + 2) (nI vv)) ((6 + (4 * (σ 0))) + 3) (nI ww)) 0 (nI ((σ 0) + 1))))), (a 2, .inl (Γ.2.1, 780, .inl (g 1))), (a 3, .inl (Γ.2.1, 60, .inl (g 2))), (a 4, .inl (Γ.2.1, 88, .inl (g 3)))] H := hP
  have hD : va_D A [(a 0, .inr (9, [.int (v 0), .ref (a 1), .ref (a 2), .int (v 1), .ref (a 3), .int (v 2), .int (v 3), .int (v 4), .ref (a 4), .int (v 5), .long hs])), (a 1, .inl (Γ.2.1, 130, .inl (upd (upd (upd (upd (upd (g 0) ((6 + (4 * (σ 0))) + 0) (nI o)) ((6 + (4 * (σ 0))) + 1) (nI pl)) ((6 + (4 * (σ 0))) + 2) (nI vv)) ((6 + (4 * (σ 0))) + 3) (nI ww)) 0 (nI ((σ 0) + 1))))), (a 2, .inl (Γ.2.1, 780, .inl (g 1))), (a 3, .inl (Γ.2.1, 60, .inl (g 2))), (a 4, .inl (Γ.2.1, 88, .inl (g 3)))] := hD
  exact W.vret hx hb hrt (fun t9 ht9 hW9 => ⟨⟨upd (upd (upd (upd (upd (g 0) ((6 + (4 * (σ 0))) + 0) (nI o)) ((6 + (4 * (σ 0))) + 1) (nI pl)) ((6 + (4 * (σ 0))) + 2) (nI vv)) ((6 + (4 * (σ 0))) + 3) (nI ww)) 0 (nI ((σ 0) + 1)), rfl, ((((hM.up).up).up).up).up, wd_end hK hP hD [0, 1, 2, 3, 4] (by decide) rfl t9 ht9 hW9⟩, hS.F ht9⟩) hS.2.2 dX9_adds_64 hlk

abbrev rm_X9_counts : Room := { frames := 1, cells := 0, slots := 0, locals := 23 }
theorem k_X9_counts : Cal yX9_counts wsX9_counts rm_X9_counts cX9_counts 3 none 2 0 0 := ⟨⟨_, rfl⟩, rfl, rfl, by decide +kernel⟩
set_option maxHeartbeats 4000000 in
set_option maxRecDepth 100000 in
theorem m_X9_counts (l : Launch) (Γ : Gm) (sz : Nat) (a : Nat → Nat) (v : Nat → Int32) (hs : Int64) (g : Nat → Nat → Int32) (σ : Nat → Nat) (hM : RepM σ (g 0)) (hI : Inv σ) (p0 : Nat) (hp : p0 < 5) (it : Int32) : MWv (S := Nat → Int32) l yX9_counts wsX9_counts rm_X9_counts Γ sz (wMd Γ a v hs g) [.ref (a 0), .int (nI p0), .int it] (fun u => RepM (cntS σ p0 (if it = -1 then 1 else 0)) u) (fun u => [(a 0, .inr (9, [.int (v 0), .ref (a 1), .ref (a 2), .int (v 1), .ref (a 3), .int (v 2), .int (v 3), .int (v 4), .ref (a 4), .int (v 5), .long hs])), (a 1, .inl (Γ.2.1, 130, .inl u)), (a 2, .inl (Γ.2.1, 780, .inl (g 1))), (a 3, .inl (Γ.2.1, 60, .inl (g 2))), (a 4, .inl (Γ.2.1, 88, .inl (g 3)))]) 0 0 := by
  refine mW (cc := cX9_counts) (maxL := 3) (ret := none) (own := RX9) (by decide) rfl rfl (Nat.le_of_ble_eq_true rfl) ?_
  intro p e s m args below meth c S hrt hlk hin hsz hK hP hD hA hS ls hl
  subst hsz
  generalize hAe : va_A (wMd Γ a v hs g) s.heap.size = A at hD hA hS ⊢
  obtain ⟨hx, hb, hml, hown, hts⟩ := id S
  have hl : lv_has ls 3 [(0, .ref (a 0)), (1, .int (nI p0)), (2, .int it)] := hl
  have hH : s.heap = s.heap := rfl
  refine lv_aload_n hx hb dX9_counts_0 rfl (lv_at hl 0 rfl) ?_
  refine lv_iload_n hx hb dX9_counts_1 rfl (lv_at hl 1 rfl) ?_
  refine lv_iconst (v := nI 3) hx hb dX9_counts_2 (by decide) ?_
  refine lv_aload_n hx hb dX9_counts_3 rfl (lv_at hl 0 rfl) ?_
  refine lv_iload_n hx hb dX9_counts_4 rfl (lv_at hl 1 rfl) ?_
  refine lv_iconst (v := nI 3) hx hb dX9_counts_5 (by decide) ?_
  refine cRi (As := [.int (nI p0), .int (nI 3)]) (rest := [.int (nI 3), .int (nI p0), .ref (a 0)]) (m_X9_ofPerson l Γ a v hs g σ hM hI p0 3 (by omega)) S k_X9_ofPerson gX9_counts_X9_ofPerson rfl ⟨Nat.le_of_ble_eq_true rfl, Nat.le_of_ble_eq_true rfl⟩ hK hP [0, 1, 2, 3, 4] rfl 0 (ci := 9) rfl rfl rfl rfl hl.1 (Nat.le_of_ble_eq_true rfl) rfl dX9_counts_6 ⟨Nat.le_of_ble_eq_true rfl, Nat.le_of_ble_eq_true rfl⟩ (fun r hr => ?_)
  subst hr
  refine lv_iconst (v := nI 1) hx hb dX9_counts_9 (by decide) ?_
  refine lv_iadd hx hb dX9_counts_10 ?_
  refine asi (z := nI ((oP σ p0 3) + 1)) (nI_add _ _) ?_
  refine cWv (As := [.int (nI p0), .int (nI 3), .int (nI ((oP σ p0 3) + 1))]) (rest := []) (wr := []) (m_X9_layPerson l Γ _ a v hs g p0 3 (by omega) (nI ((oP σ p0 3) + 1))) S k_X9_layPerson gX9_counts_X9_layPerson rfl ⟨Nat.le_of_ble_eq_true rfl, Nat.le_of_ble_eq_true rfl⟩ hK hP hD hS hA [0, 1, 2, 3, 4] [] rfl rfl (by decide) (by decide) (by decide) 0 (ci := 9) rfl rfl rfl rfl hl.1 (Nat.le_of_ble_eq_true rfl) rfl dX9_counts_11 ⟨Nat.le_of_ble_eq_true rfl, Nat.le_of_ble_eq_true rfl⟩ (fun u H locs hr hP hD hS => ?_)
  have hP : gP Γ [(a 0, .inr (9, [.int (v 0), .ref (a 1), .ref (a 2), .int (v 1), .ref (a 3), .int (v 2), .int (v 3), .int (v 4), .ref (a 4), .int (v 5), .long hs])), (a 1, .inl (Γ.2.1, 130, .inl (upd (g 0) (70 + 5 * p0 + 3) (nI ((oP σ p0 3) + 1))))), (a 2, .inl (Γ.2.1, 780, .inl (g 1))), (a 3, .inl (Γ.2.1, 60, .inl (g 2))), (a 4, .inl (Γ.2.1, 88, .inl (g 3)))] H := hP
  have hD : va_D A [(a 0, .inr (9, [.int (v 0), .ref (a 1), .ref (a 2), .int (v 1), .ref (a 3), .int (v 2), .int (v 3), .int (v 4), .ref (a 4), .int (v 5), .long hs])), (a 1, .inl (Γ.2.1, 130, .inl (upd (g 0) (70 + 5 * p0 + 3) (nI ((oP σ p0 3) + 1))))), (a 2, .inl (Γ.2.1, 780, .inl (g 1))), (a 3, .inl (Γ.2.1, 60, .inl (g 2))), (a 4, .inl (Γ.2.1, 88, .inl (g 3)))] := hD
  refine lv_aload_n hx hb dX9_counts_14 rfl (lv_at hl 0 rfl) ?_
  refine lv_iload_n hx hb dX9_counts_15 rfl (lv_at hl 1 rfl) ?_
  refine lv_iconst (v := nI 4) hx hb dX9_counts_16 (by decide) ?_
  refine lv_aload_n hx hb dX9_counts_17 rfl (lv_at hl 0 rfl) ?_
  refine lv_iload_n hx hb dX9_counts_18 rfl (lv_at hl 1 rfl) ?_
  refine lv_iconst (v := nI 4) hx hb dX9_counts_19 (by decide) ?_
  refine cRi (As := [.int (nI p0), .int (nI 4)]) (rest := [.int (nI 4), .int (nI p0), .ref (a 0)]) (m_X9_ofPerson l Γ a v hs (va_up g 0 (upd (g 0) (70 + 5 * p0 + 3) (nI ((oP σ p0 3) + 1)))) (nup σ (70 + 5 * p0 + 3) (oP σ p0 3 + 1)) hM.up (asked_I hI hp) p0 4 (by omega)) S k_X9_ofPerson gX9_counts_X9_ofPerson rfl ⟨Nat.le_of_ble_eq_true rfl, Nat.le_of_ble_eq_true rfl⟩ hK hP [0, 1, 2, 3, 4] rfl 0 (ci := 9) rfl rfl rfl rfl hl.1 (Nat.le_of_ble_eq_true rfl) rfl dX9_counts_20 ⟨Nat.le_of_ble_eq_true rfl, Nat.le_of_ble_eq_true rfl⟩ (fun r hr => ?_)
  subst hr
  rw [show oP (nup σ (70 + 5 * p0 + 3) (oP σ p0 3 + 1)) p0 4 = oP σ p0 4 from nup_e (by omega)]
  refine lv_iload_n hx hb dX9_counts_23 rfl (lv_at hl 2 rfl) ?_
  refine lv_iconst (v := (-1)) hx hb dX9_counts_24 (by decide) ?_
  refine lv_icmp_ne (tgt := 32) hx hb dX9_counts_25 (by decide) (fun c_25 => ?_) (fun c_25 => ?_)
  · refine lv_iconst (v := nI 0) hx hb dX9_counts_32 (by decide) ?_
    refine lv_iadd hx hb dX9_counts_33 ?_
    refine asi (z := nI ((oP σ p0 4) + 0)) (nI_add _ _) ?_
    refine cWv (As := [.int (nI p0), .int (nI 4), .int (nI ((oP σ p0 4) + 0))]) (rest := []) (wr := []) (m_X9_layPerson l Γ _ a v hs (va_up g 0 (upd (g 0) (70 + 5 * p0 + 3) (nI ((oP σ p0 3) + 1)))) p0 4 (by omega) (nI ((oP σ p0 4) + 0))) S k_X9_layPerson gX9_counts_X9_layPerson rfl ⟨Nat.le_of_ble_eq_true rfl, Nat.le_of_ble_eq_true rfl⟩ hK hP hD hS hA [0, 1, 2, 3, 4] [] rfl rfl (by decide) (by decide) (by decide) 0 (ci := 9) rfl rfl rfl rfl hl.1 (Nat.le_of_ble_eq_true rfl) rfl dX9_counts_34 ⟨Nat.le_of_ble_eq_true rfl, Nat.le_of_ble_eq_true rfl⟩ (fun u H locs hr hP hD hS => ?_)
    have hP : gP Γ [(a 0, .inr (9, [.int (v 0), .ref (a 1), .ref (a 2), .int (v 1), .ref (a 3), .int (v 2), .int (v 3), .int (v 4), .ref (a 4), .int (v 5), .long hs])), (a 1, .inl (Γ.2.1, 130, .inl (upd (upd (g 0) (70 + 5 * p0 + 3) (nI ((oP σ p0 3) + 1))) (70 + 5 * p0 + 4) (nI ((oP σ p0 4) + 0))))), (a 2, .inl (Γ.2.1, 780, .inl (g 1))), (a 3, .inl (Γ.2.1, 60, .inl (g 2))), (a 4, .inl (Γ.2.1, 88, .inl (g 3)))] H := hP
    have hD : va_D A [(a 0, .inr (9, [.int (v 0), .ref (a 1), .ref (a 2), .int (v 1), .ref (a 3), .int (v 2), .int (v 3), .int (v 4), .ref (a 4), .int (v 5), .long hs])), (a 1, .inl (Γ.2.1, 130, .inl (upd (upd (g 0) (70 + 5 * p0 + 3) (nI ((oP σ p0 3) + 1))) (70 + 5 * p0 + 4) (nI ((oP σ p0 4) + 0))))), (a 2, .inl (Γ.2.1, 780, .inl (g 1))), (a 3, .inl (Γ.2.1, 60, .inl (g 2))), (a 4, .inl (Γ.2.1, 88, .inl (g 3)))] := hD
    exact W.vret hx hb hrt (fun t9 ht9 hW9 => ⟨⟨upd (upd (g 0) (70 + 5 * p0 + 3) (nI ((oP σ p0 3) + 1))) (70 + 5 * p0 + 4) (nI ((oP σ p0 4) + 0)), rfl, by first | (rw [if_pos c_25]; exact hM.up.up) | (rw [if_neg c_25]; exact hM.up.up), wd_end hK hP hD [0, 1, 2, 3, 4] (by decide) rfl t9 ht9 hW9⟩, hS.F ht9⟩) hS.2.2 dX9_counts_37 hlk
  · refine lv_iconst (v := nI 1) hx hb dX9_counts_28 (by decide) ?_
    refine lv_goto (tgt := 33) hx hb dX9_counts_29 (by decide) ?_
    refine lv_iadd hx hb dX9_counts_33 ?_
    refine asi (z := nI ((oP σ p0 4) + 1)) (nI_add _ _) ?_
    refine cWv (As := [.int (nI p0), .int (nI 4), .int (nI ((oP σ p0 4) + 1))]) (rest := []) (wr := []) (m_X9_layPerson l Γ _ a v hs (va_up g 0 (upd (g 0) (70 + 5 * p0 + 3) (nI ((oP σ p0 3) + 1)))) p0 4 (by omega) (nI ((oP σ p0 4) + 1))) S k_X9_layPerson gX9_counts_X9_layPerson rfl ⟨Nat.le_of_ble_eq_true rfl, Nat.le_of_ble_eq_true rfl⟩ hK hP hD hS hA [0, 1, 2, 3, 4] [] rfl rfl (by decide) (by decide) (by decide) 0 (ci := 9) rfl rfl rfl rfl hl.1 (Nat.le_of_ble_eq_true rfl) rfl dX9_counts_34 ⟨Nat.le_of_ble_eq_true rfl, Nat.le_of_ble_eq_true rfl⟩ (fun u H locs hr hP hD hS => ?_)
    have hP : gP Γ [(a 0, .inr (9, [.int (v 0), .ref (a 1), .ref (a 2), .int (v 1), .ref (a 3), .int (v 2), .int (v 3), .int (v 4), .ref (a 4), .int (v 5), .long hs])), (a 1, .inl (Γ.2.1, 130, .inl (upd (upd (g 0) (70 + 5 * p0 + 3) (nI ((oP σ p0 3) + 1))) (70 + 5 * p0 + 4) (nI ((oP σ p0 4) + 1))))), (a 2, .inl (Γ.2.1, 780, .inl (g 1))), (a 3, .inl (Γ.2.1, 60, .inl (g 2))), (a 4, .inl (Γ.2.1, 88, .inl (g 3)))] H := hP
    have hD : va_D A [(a 0, .inr (9, [.int (v 0), .ref (a 1), .ref (a 2), .int (v 1), .ref (a 3), .int (v 2), .int (v 3), .int (v 4), .ref (a 4), .int (v 5), .long hs])), (a 1, .inl (Γ.2.1, 130, .inl (upd (upd (g 0) (70 + 5 * p0 + 3) (nI ((oP σ p0 3) + 1))) (70 + 5 * p0 + 4) (nI ((oP σ p0 4) + 1))))), (a 2, .inl (Γ.2.1, 780, .inl (g 1))), (a 3, .inl (Γ.2.1, 60, .inl (g 2))), (a 4, .inl (Γ.2.1, 88, .inl (g 3)))] := hD
    exact W.vret hx hb hrt (fun t9 ht9 hW9 => ⟨⟨upd (upd (g 0) (70 + 5 * p0 + 3) (nI ((oP σ p0 3) + 1))) (70 + 5 * p0 + 4) (nI ((oP σ p0 4) + 1)), rfl, by first | (rw [if_pos c_25]; exact hM.up.up) | (rw [if_neg c_25]; exact hM.up.up), wd_end hK hP hD [0, 1, 2, 3, 4] (by decide) rfl t9 ht9 hW9⟩, hS.F ht9⟩) hS.2.2 dX9_counts_37 hlk

abbrev rm_X9_refuses : Room := { frames := 2, cells := 0, slots := 0, locals := 42 }
theorem k_X9_refuses : Cal yX9_refuses wsX9_refuses rm_X9_refuses cX9_refuses 5 (some .int) 4 0 0 := ⟨⟨_, rfl⟩, rfl, rfl, by decide +kernel⟩
set_option maxHeartbeats 4000000 in
set_option maxRecDepth 100000 in
theorem m_X9_refuses (l : Launch) (Γ : Gm) (a : Nat → Nat) (v : Nat → Int32) (hs : Int64) (g : Nat → Nat → Int32) (ip ipl il ih : Int32) : MRi l yX9_refuses wsX9_refuses rm_X9_refuses Γ (wMd Γ a v hs g) [.ref (a 0), .int ip, .int ipl, .int il, .int ih] (fun r => r = nI (qCode ip ipl il ih)) := by
  refine mR (cc := cX9_refuses) (maxL := 5) (ret := (some .int)) (own := RX9) (by decide) rfl rfl (Nat.le_of_ble_eq_true rfl) ?_
  intro p e s m args below meth c S hrt hlk hK hP ls hl
  obtain ⟨hx, hb, hml, hown, hts⟩ := id S
  have hl : lv_has ls 5 [(0, .ref (a 0)), (1, .int ip), (2, .int ipl), (3, .int il), (4, .int ih)] := hl
  have hP : gP Γ (wMd Γ a v hs g) s.heap := hP
  refine lv_iload_n hx hb dX9_refuses_0 rfl (lv_at hl 1 rfl) ?_
  refine cSi (As := [.int ip]) (rest := []) (m_X9_isPerson l ip) S k_X9_isPerson gX9_refuses_X9_isPerson ⟨Nat.le_of_ble_eq_true rfl, Nat.le_of_ble_eq_true rfl⟩ rfl hl.1 (Nat.le_of_ble_eq_true rfl) rfl dX9_refuses_1 ⟨Nat.le_of_ble_eq_true rfl, Nat.le_of_ble_eq_true rfl⟩ (fun r hr => ?_)
  subst hr
  refine lv_if_eq (tgt := 16) hx hb dX9_refuses_4 (by decide) (fun c_4 => ?_) (fun c_4 => ?_)
  · have n_4 := bI_z.mp c_4
    refine lv_iconst (v := nI 1) hx hb dX9_refuses_16 (by decide) ?_
    exact W.iret (v := nI 1) hx hb hrt (fun t9 ht9 hW9 => ⟨_, rfl, by unfold qCode; first | rw [n_4]; rfl | rw [n_4, n_13]; rfl, ht9⟩) (fun _ h9 => nomatch h9) dX9_refuses_17 hlk
  · have n_4 := bI_nz.mp c_4
    refine lv_iload_n hx hb dX9_refuses_7 rfl (lv_at hl 2 rfl) ?_
    refine lv_iconst (v := (-1)) hx hb dX9_refuses_8 (by decide) ?_
    refine lv_iconst (v := nI 3) hx hb dX9_refuses_9 (by decide) ?_
    refine cSi (As := [.int ipl, .int (-1), .int (nI 3)]) (rest := []) (m_X9_in l ipl (-1) (nI 3)) S k_X9_in gX9_refuses_X9_in ⟨Nat.le_of_ble_eq_true rfl, Nat.le_of_ble_eq_true rfl⟩ rfl hl.1 (Nat.le_of_ble_eq_true rfl) rfl dX9_refuses_10 ⟨Nat.le_of_ble_eq_true rfl, Nat.le_of_ble_eq_true rfl⟩ (fun r hr => ?_)
    subst hr
    refine lv_if_ne (tgt := 18) hx hb dX9_refuses_13 (by decide) (fun c_13 => ?_) (fun c_13 => ?_)
    · have n_13 := bI_nz.mp c_13
      rw [pl_in (by decide)] at n_13; change plQ ipl = _ at n_13
      refine lv_iload_n hx hb dX9_refuses_18 rfl (lv_at hl 3 rfl) ?_
      refine lv_iconst (v := nI 0) hx hb dX9_refuses_19 (by decide) ?_
      refine lv_bipush (v := nI 99) hx hb dX9_refuses_20 (by decide) ?_
      refine cSi (As := [.int il, .int (nI 0), .int (nI 99)]) (rest := []) (m_X9_in l il (nI 0) (nI 99)) S k_X9_in gX9_refuses_X9_in ⟨Nat.le_of_ble_eq_true rfl, Nat.le_of_ble_eq_true rfl⟩ rfl hl.1 (Nat.le_of_ble_eq_true rfl) rfl dX9_refuses_22 ⟨Nat.le_of_ble_eq_true rfl, Nat.le_of_ble_eq_true rfl⟩ (fun r hr => ?_)
      subst hr
      refine lv_if_eq (tgt := 43) hx hb dX9_refuses_25 (by decide) (fun c_25 => ?_) (fun c_25 => ?_)
      · have n_25 := bI_z.mp c_25
        refine lv_iconst (v := nI 2) hx hb dX9_refuses_43 (by decide) ?_
        exact W.iret (v := nI 2) hx hb hrt (fun t9 ht9 hW9 => ⟨_, rfl, by unfold qCode; first | rw [n_4, n_13, n_25]; rfl | rw [n_4, n_13, n_25, n_36]; rfl, ht9⟩) (fun _ h9 => nomatch h9) dX9_refuses_44 hlk
      · have n_25 := bI_nz.mp c_25
        refine lv_iload hx hb dX9_refuses_28 (lv_at hl 4 rfl) ?_
        refine lv_iload_n hx hb dX9_refuses_30 rfl (lv_at hl 3 rfl) ?_
        refine lv_bipush (v := nI 99) hx hb dX9_refuses_31 (by decide) ?_
        refine cSi (As := [.int ih, .int il, .int (nI 99)]) (rest := []) (m_X9_in l ih il (nI 99)) S k_X9_in gX9_refuses_X9_in ⟨Nat.le_of_ble_eq_true rfl, Nat.le_of_ble_eq_true rfl⟩ rfl hl.1 (Nat.le_of_ble_eq_true rfl) rfl dX9_refuses_33 ⟨Nat.le_of_ble_eq_true rfl, Nat.le_of_ble_eq_true rfl⟩ (fun r hr => ?_)
        subst hr
        refine lv_if_eq (tgt := 43) hx hb dX9_refuses_36 (by decide) (fun c_36 => ?_) (fun c_36 => ?_)
        · have n_36 := bI_z.mp c_36
          refine lv_iconst (v := nI 2) hx hb dX9_refuses_43 (by decide) ?_
          exact W.iret (v := nI 2) hx hb hrt (fun t9 ht9 hW9 => ⟨_, rfl, by unfold qCode; first | rw [n_4, n_13, n_25]; rfl | rw [n_4, n_13, n_25, n_36]; rfl, ht9⟩) (fun _ h9 => nomatch h9) dX9_refuses_44 hlk
        · have n_36 := bI_nz.mp c_36
          refine lv_iconst (v := nI 0) hx hb dX9_refuses_39 (by decide) ?_
          refine lv_goto (tgt := 44) hx hb dX9_refuses_40 (by decide) ?_
          exact W.iret (v := nI 0) hx hb hrt (fun t9 ht9 hW9 => ⟨_, rfl, by unfold qCode; rw [n_4, n_13, n_25, n_36]; rfl, ht9⟩) (fun _ h9 => nomatch h9) dX9_refuses_44 hlk
    · have n_13 := bI_z.mp c_13
      rw [pl_in (by decide)] at n_13; change plQ ipl = _ at n_13
      refine lv_iconst (v := nI 1) hx hb dX9_refuses_16 (by decide) ?_
      exact W.iret (v := nI 1) hx hb hrt (fun t9 ht9 hW9 => ⟨_, rfl, by unfold qCode; first | rw [n_4]; rfl | rw [n_4, n_13]; rfl, ht9⟩) (fun _ h9 => nomatch h9) dX9_refuses_17 hlk

