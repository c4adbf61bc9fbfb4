/-! RowVeils' own helpers and looks. -/
theorem sumI_P {σ : Nat → Nat} {g : Nat → Int32} {w : Nat} (h : ∀ p, p < 5 → g p = nI (oP σ p w)) : ∀ {n : Nat}, n ≤ 5 → sumI g n = nI (sumP σ w n)
  | 0, _ => rfl
  | n + 1, hn => by
    show sumI g n + g n = nI (sumP σ w n + oP σ n w)
    rw [sumI_P h (by omega), h n (by omega), nI_add]
/-- a number in a range is a small one -/
theorem in_small {x : Int32} {n : Nat} (hn : n < 2 ^ 31) (h : inI x (nI 0) (nI n) = true) : ∃ j, j ≤ n ∧ x = nI j := by
  obtain ⟨h1, h2⟩ := inI_t'.mp h
  have h3 : ¬ x < 0 := Int32.not_lt.mpr h1
  exact nI_of2 (M := nI n) (nI_toInt hn) h3 h2
theorem in_lt {x : Int32} {n : Nat} (hn : n < 2 ^ 31) (h : inI x (nI 0) (nI n) = true) : ∃ j, j < n + 1 ∧ x = nI j := by
  obtain ⟨j, h1, h2⟩ := in_small hn h
  exact ⟨j, by omega, h2⟩
theorem in_row {x : Int32} {n : Nat} (hn : n ≤ 16) (h : inI x (nI 0) (nI n - nI 1) = true) : ∃ j, j < n ∧ x = nI j := by
  rcases Nat.eq_zero_or_pos n with e | e
  · subst e
    obtain ⟨h1, h2⟩ := inI_t'.mp h
    have h3 : ¬ x < 0 := Int32.not_lt.mpr h1
    obtain ⟨j, hj, rfl⟩ := nI_of h3
    exfalso
    have h4 : (nI j).toInt ≤ (nI 0 - nI 1).toInt := Int32.le_iff_toInt_le.mp h2
    rw [nI_toInt hj] at h4
    have h5 : (nI 0 - nI 1).toInt = -1 := by decide
    omega
  · rw [pk_sub (by omega)] at h
    obtain ⟨j, h1, h2⟩ := in_small (by omega) h
    exact ⟨j, by omega, h2⟩
def plQ (x : Int32) : Bool := decide (x = -1) || inI x (nI 0) (nI 3)
/-- what a question throws: 0 nothing, 1 no such asker or place, 2 a range -/
def qCode (p pl lo hi : Int32) : Nat := if (inI p (nI 0) (nI 4) && plQ pl) = false then 1 else if (inI lo (nI 0) (nI 99) && inI hi lo (nI 99)) = false then 2 else 0
theorem qCode_ok {p pl lo hi : Int32} (h : qCode p pl lo hi = 0) : ∃ a l h2 : Nat, a < 5 ∧ l ≤ 99 ∧ l ≤ h2 ∧ h2 ≤ 99 ∧ p = nI a ∧ plQ pl = true ∧ lo = nI l ∧ hi = nI h2 := by
  unfold qCode at h
  split at h
  · cases h
  · split at h
    · cases h
    · rename_i h1 h2
      have h1' := (Bool.not_eq_false _).mp h1
      have h2' := (Bool.not_eq_false _).mp h2
      rw [Bool.and_eq_true] at h1' h2'
      obtain ⟨a, ha, rfl⟩ := in_small (by decide) h1'.1
      obtain ⟨l, hl, rfl⟩ := in_small (by decide) h2'.1
      obtain ⟨q1, q2⟩ := inI_t'.mp h2'.2
      have q3 : ¬ hi < 0 := fun z => by
        have h5 : (nI 0).toInt ≤ (nI l).toInt := by rw [nI_toInt (by decide), nI_toInt (by omega)]; omega
        have h6 := Int32.le_iff_toInt_le.mp q1
        have h7 := Int32.lt_iff_toInt_lt.mp z
        have h8 : (0 : Int32).toInt = 0 := by decide
        rw [nI_toInt (by omega)] at h6
        omega
      obtain ⟨k, hk, rfl⟩ := nI_of2 (M := nI 99) (nI_toInt (by decide)) q3 q2
      exact ⟨a, l, k, by omega, hl, (nI_leI (by omega) (by omega)).mp q1, hk, rfl, h1'.2, rfl, rfl⟩
/-- the one of the declared exceptions that a code stands for -/
def exc (es : List String) (E : String) (c : Nat) : Prop := ∃ k, c = k + 1 ∧ es[k]? = some E
def rwC (σ : Nat → Nat) (ix iw : Int32) : Nat := if inI ix (nI 0) (nI (σ 0) - nI 1) = false then 1 else if inI iw (nI 0) (nI 4) = false then 2 else 0
def peC (ip iw : Int32) : Nat := if inI ip (nI 0) (nI 4) = false then 1 else if inI iw (nI 0) (nI 7) = false then 2 else 0
def veC (σ : Nat → Nat) (ip ix : Int32) : Nat := if inI ip (nI 0) (nI 4) = false then 1 else if inI ix (nI 0) (nI (σ 0) - nI 1) = false then 1 else 0
def reC (ip ik : Int32) : Nat := if inI ip (nI 0) (nI 4) = false then 1 else if ik < 0 then 2 else 0
def remV (σ : Nat → Nat) (p k : Nat) : Int32 := if k < oK σ p then nI (oM σ p k) else -1
def coC (iw : Int32) : Nat := if inI iw (nI 0) (nI 9) = false then 1 else 0
def ifC (ip ipl il ih iw : Int32) : Nat := if qCode ip ipl il ih = 0 then (if inI iw (nI 0) (nI 3) = false then 2 else 0) else qCode ip ipl il ih
theorem ifC_q {ip ipl il ih iw : Int32} {es : List String} {E : String} (h : exc es E (qCode ip ipl il ih)) : exc es E (ifC ip ipl il ih iw) := by
  obtain ⟨k, h1, h2⟩ := h
  refine ⟨k, ?_, h2⟩
  unfold ifC
  rw [if_neg (by omega), h1]
def hiC (ip : Int32) : Nat := if inI ip (nI 0) (nI 3) = false then 1 else 0
def neC (ip ipl : Int32) : Nat := if (inI ip (nI 0) (nI 4) && plQ ipl) = false then 1 else 0
abbrev wXp (Γ : Gm) (a : Nat → Nat) (rf : Nat → Option Nat) (f : Nat → Nat → Int32) (z : Nat → Int32) : va_W := [(a 34, .inr (8, [.ref (a 0), .ref (a 29), .ref (a 31)])), (a 0, .inr (6, [.ref (a 1), .ref (a 10), .ref (a 17), .ref (a 22), .ref (a 27), .int (z 1)])), (a 1, .inr (5, [.ref (a 2), .ref (a 4), .ref (a 6), .ref (a 8), .int (z 0)])), (a 2, .inr (3, [.ref (a 3)])), (a 3, .inl (Γ.2.1, 16, .inl (f 0))), (a 4, .inr (3, [.ref (a 5)])), (a 5, .inl (Γ.2.1, 16, .inl (f 1))), (a 6, .inr (3, [.ref (a 7)])), (a 7, .inl (Γ.2.1, 16, .inl (f 2))), (a 8, .inr (3, [.ref (a 9)])), (a 9, .inl (Γ.2.1, 16, .inl (f 3))), (a 10, .inr (4, [.ref (a 11), .ref (a 13), .ref (a 15)])), (a 11, .inr (3, [.ref (a 12)])), (a 12, .inl (Γ.2.1, 5, .inl (f 4))), (a 13, .inr (3, [.ref (a 14)])), (a 14, .inl (Γ.2.1, 5, .inl (f 5))), (a 15, .inr (3, [.ref (a 16)])), (a 16, .inl (Γ.2.1, 5, .inl (f 6))), (a 17, .inr (2, [.ref (a 18), .ref (a 20)])), (a 18, .inr (3, [.ref (a 19)])), (a 19, .inl (Γ.2.1, 30, .inl (f 7))), (a 20, .inr (3, [.ref (a 21)])), (a 21, .inl (Γ.2.1, 5, .inl (f 8))), (a 22, .inr (7, [.ref (a 23), .ref (a 25), .int (z 2)])), (a 23, .inr (3, [.ref (a 24)])), (a 24, .inl (Γ.2.1, 5, .inl (f 9))), (a 25, .inr (3, [.ref (a 26)])), (a 26, .inl (Γ.2.1, 5, .inl (f 10))), (a 27, .inr (3, [.ref (a 28)])), (a 28, .inl (Γ.2.1, 3, .inl (f 11))), (a 29, .inr (1, [.ref (a 30), .int (z 3), .int (z 4)])), (a 30, .inl (Γ.2.2.1, 6, .inr (.inr (.inr (.inr rf))))), (a 31, .inr (0, [.ref (a 32), .int (z 5)])), (a 32, .inr (3, [.ref (a 33)])), (a 33, .inl (Γ.2.1, 60, .inl (f 12)))]
abbrev rm_X8_isWithin : Room := { frames := 0, cells := 0, slots := 0, locals := 0 }
theorem k_X8_isWithin : Cal yX8_isWithin wsX8_isWithin rm_X8_isWithin cX8_isWithin 3 (some .boolean) 3 0 0 := ⟨⟨_, rfl⟩, rfl, rfl, by decide +kernel⟩
set_option maxHeartbeats 4000000 in
set_option maxRecDepth 100000 in
theorem m_X8_isWithin (l : Launch) (x lo hi : Int32) : MSi l yX8_isWithin wsX8_isWithin rm_X8_isWithin [.int x, .int lo, .int hi] (fun r => r = bI (inI x lo hi)) := by
  refine mS (cc := cX8_isWithin) (maxL := 3) (ret := (some .boolean)) (own := RX8) (by decide) rfl rfl (Nat.le_of_ble_eq_true rfl) ?_
  intro p e s m args below meth c S hrt hlk ls hl
  obtain ⟨hx, hb, hml, hown, hts⟩ := id S
  have hl : lv_has ls 3 [(0, .int x), (1, .int lo), (2, .int hi)] := hl
  refine lv_iload_n hx hb dX8_isWithin_0 rfl (lv_at hl 0 rfl) ?_
  refine lv_iload_n hx hb dX8_isWithin_1 rfl (lv_at hl 1 rfl) ?_
  refine lv_icmp_lt (tgt := 14) hx hb dX8_isWithin_2 (by decide) (fun c_2 => ?_) (fun c_2 => ?_)
  · refine lv_iconst (v := nI 0) hx hb dX8_isWithin_14 (by decide) ?_
    exact W.zret (v := nI 0) hx hb hrt (z0) (fun t9 ht9 hW9 => ⟨_, rfl, bf (Bool.eq_false_iff.mpr (fun h => by have h2 := inI_t'.mp h; first | exact absurd h2.1 (in_l c_2) | exact absurd h2.2 (in_g c_7))), ht9⟩) (fun _ h9 => nomatch h9) dX8_isWithin_15 hlk
  · refine lv_iload_n hx hb dX8_isWithin_5 rfl (lv_at hl 0 rfl) ?_
    refine lv_iload_n hx hb dX8_isWithin_6 rfl (lv_at hl 2 rfl) ?_
    refine lv_icmp_gt (tgt := 14) hx hb dX8_isWithin_7 (by decide) (fun c_7 => ?_) (fun c_7 => ?_)
    · refine lv_iconst (v := nI 0) hx hb dX8_isWithin_14 (by decide) ?_
      exact W.zret (v := nI 0) hx hb hrt (z0) (fun t9 ht9 hW9 => ⟨_, rfl, bf (Bool.eq_false_iff.mpr (fun h => by have h2 := inI_t'.mp h; first | exact absurd h2.1 (in_l c_2) | exact absurd h2.2 (in_g c_7))), ht9⟩) (fun _ h9 => nomatch h9) dX8_isWithin_15 hlk
    · refine lv_iconst (v := nI 1) hx hb dX8_isWithin_10 (by decide) ?_
      refine lv_goto (tgt := 15) hx hb dX8_isWithin_11 (by decide) ?_
      exact W.zret (v := nI 1) hx hb hrt (z1) (fun t9 ht9 hW9 => ⟨_, rfl, bt (inI_t ⟨in_nl c_2, in_ng c_7⟩), ht9⟩) (fun _ h9 => nomatch h9) dX8_isWithin_15 hlk

abbrev rm_X8_isPerson : Room := { frames := 1, cells := 0, slots := 0, locals := 22 }
theorem k_X8_isPerson : Cal yX8_isPerson wsX8_isPerson rm_X8_isPerson cX8_isPerson 1 (some .boolean) 1 0 0 := ⟨⟨_, rfl⟩, rfl, rfl, by decide +kernel⟩
set_option maxHeartbeats 4000000 in
set_option maxRecDepth 100000 in
theorem m_X8_isPerson (l : Launch) (x : Int32) : MSi l yX8_isPerson wsX8_isPerson rm_X8_isPerson [.int x] (fun r => r = bI (inI x (nI 0) (nI 4))) := by
  refine mS (cc := cX8_isPerson) (maxL := 1) (ret := (some .boolean)) (own := RX8) (by decide) rfl rfl (Nat.le_of_ble_eq_true rfl) ?_
  intro p e s m args below meth c S hrt hlk ls hl
  obtain ⟨hx, hb, hml, hown, hts⟩ := id S
  have hl : lv_has ls 1 [(0, .int x)] := hl
  refine lv_iload_n hx hb dX8_isPerson_0 rfl (lv_at hl 0 rfl) ?_
  refine lv_iconst (v := nI 0) hx hb dX8_isPerson_1 (by decide) ?_
  refine lv_iconst (v := nI 4) hx hb dX8_isPerson_2 (by decide) ?_
  refine cSi (As := [.int x, .int (nI 0), .int (nI 4)]) (rest := []) (m_X8_isWithin l x (nI 0) (nI 4)) S k_X8_isWithin gX8_isPerson_X8_isWithin ⟨Nat.le_of_ble_eq_true rfl, Nat.le_of_ble_eq_true rfl⟩ rfl hl.1 (Nat.le_of_ble_eq_true rfl) rfl dX8_isPerson_3 ⟨Nat.le_of_ble_eq_true rfl, Nat.le_of_ble_eq_true rfl⟩ (fun r hr => ?_)
  subst hr
  exact W.zret (v := bI (inI x (nI 0) (nI 4))) hx hb hrt (zb _) (fun t9 ht9 hW9 => ⟨_, rfl, rfl, ht9⟩) (fun _ h9 => nomatch h9) dX8_isPerson_6 hlk

abbrev rm_X8_isPlace : Room := { frames := 1, cells := 0, slots := 0, locals := 22 }
theorem k_X8_isPlace : Cal yX8_isPlace wsX8_isPlace rm_X8_isPlace cX8_isPlace 1 (some .boolean) 1 0 0 := ⟨⟨_, rfl⟩, rfl, rfl, by decide +kernel⟩
set_option maxHeartbeats 4000000 in
set_option maxRecDepth 100000 in
theorem m_X8_isPlace (l : Launch) (x : Int32) : MSi l yX8_isPlace wsX8_isPlace rm_X8_isPlace [.int x] (fun r => r = bI (inI x (nI 0) (nI 3))) := by
  refine mS (cc := cX8_isPlace) (maxL := 1) (ret := (some .boolean)) (own := RX8) (by decide) rfl rfl (Nat.le_of_ble_eq_true rfl) ?_
  intro p e s m args below meth c S hrt hlk ls hl
  obtain ⟨hx, hb, hml, hown, hts⟩ := id S
  have hl : lv_has ls 1 [(0, .int x)] := hl
  refine lv_iload_n hx hb dX8_isPlace_0 rfl (lv_at hl 0 rfl) ?_
  refine lv_iconst (v := nI 0) hx hb dX8_isPlace_1 (by decide) ?_
  refine lv_iconst (v := nI 3) hx hb dX8_isPlace_2 (by decide) ?_
  refine cSi (As := [.int x, .int (nI 0), .int (nI 3)]) (rest := []) (m_X8_isWithin l x (nI 0) (nI 3)) S k_X8_isWithin gX8_isPlace_X8_isWithin ⟨Nat.le_of_ble_eq_true rfl, Nat.le_of_ble_eq_true rfl⟩ rfl hl.1 (Nat.le_of_ble_eq_true rfl) rfl dX8_isPlace_3 ⟨Nat.le_of_ble_eq_true rfl, Nat.le_of_ble_eq_true rfl⟩ (fun r hr => ?_)
  subst hr
  exact W.zret (v := bI (inI x (nI 0) (nI 3))) hx hb hrt (zb _) (fun t9 ht9 hW9 => ⟨_, rfl, rfl, ht9⟩) (fun _ h9 => nomatch h9) dX8_isPlace_6 hlk

abbrev rm_X8_isValue : Room := { frames := 1, cells := 0, slots := 0, locals := 22 }
theorem k_X8_isValue : Cal yX8_isValue wsX8_isValue rm_X8_isValue cX8_isValue 1 (some .boolean) 1 0 0 := ⟨⟨_, rfl⟩, rfl, rfl, by decide +kernel⟩
set_option maxHeartbeats 4000000 in
set_option maxRecDepth 100000 in
theorem m_X8_isValue (l : Launch) (x : Int32) : MSi l yX8_isValue wsX8_isValue rm_X8_isValue [.int x] (fun r => r = bI (inI x (nI 0) (nI 99))) := by
  refine mS (cc := cX8_isValue) (maxL := 1) (ret := (some .boolean)) (own := RX8) (by decide) rfl rfl (Nat.le_of_ble_eq_true rfl) ?_
  intro p e s m args below meth c S hrt hlk ls hl
  obtain ⟨hx, hb, hml, hown, hts⟩ := id S
  have hl : lv_has ls 1 [(0, .int x)] := hl
  refine lv_iload_n hx hb dX8_isValue_0 rfl (lv_at hl 0 rfl) ?_
  refine lv_iconst (v := nI 0) hx hb dX8_isValue_1 (by decide) ?_
  refine lv_bipush (v := nI 99) hx hb dX8_isValue_2 (by decide) ?_
  refine cSi (As := [.int x, .int (nI 0), .int (nI 99)]) (rest := []) (m_X8_isWithin l x (nI 0) (nI 99)) S k_X8_isWithin gX8_isValue_X8_isWithin ⟨Nat.le_of_ble_eq_true rfl, Nat.le_of_ble_eq_true rfl⟩ rfl hl.1 (Nat.le_of_ble_eq_true rfl) rfl dX8_isValue_4 ⟨Nat.le_of_ble_eq_true rfl, Nat.le_of_ble_eq_true rfl⟩ (fun r hr => ?_)
  subst hr
  exact W.zret (v := bI (inI x (nI 0) (nI 99))) hx hb hrt (zb _) (fun t9 ht9 hW9 => ⟨_, rfl, rfl, ht9⟩) (fun _ h9 => nomatch h9) dX8_isValue_7 hlk

abbrev rm_X8_isPlaceOrAll : Room := { frames := 2, cells := 0, slots := 0, locals := 42 }
theorem k_X8_isPlaceOrAll : Cal yX8_isPlaceOrAll wsX8_isPlaceOrAll rm_X8_isPlaceOrAll cX8_isPlaceOrAll 1 (some .boolean) 1 0 0 := ⟨⟨_, rfl⟩, rfl, rfl, by decide +kernel⟩
set_option maxHeartbeats 4000000 in
set_option maxRecDepth 100000 in
theorem m_X8_isPlaceOrAll (l : Launch) (x : Int32) : MSi l yX8_isPlaceOrAll wsX8_isPlaceOrAll rm_X8_isPlaceOrAll [.int x] (fun r => r = bI (plQ x)) := by
  refine mS (cc := cX8_isPlaceOrAll) (maxL := 1) (ret := (some .boolean)) (own := RX8) (by decide) rfl rfl (Nat.le_of_ble_eq_true rfl) ?_
  intro p e s m args below meth c S hrt hlk ls hl
  obtain ⟨hx, hb, hml, hown, hts⟩ := id S
  have hl : lv_has ls 1 [(0, .int x)] := hl
  refine lv_iload_n hx hb dX8_isPlaceOrAll_0 rfl (lv_at hl 0 rfl) ?_
  refine lv_iconst (v := (-1)) hx hb dX8_isPlaceOrAll_1 (by decide) ?_
  refine lv_icmp_eq (tgt := 12) hx hb dX8_isPlaceOrAll_2 (by decide) (fun c_2 => ?_) (fun c_2 => ?_)
  · refine lv_iconst (v := nI 1) hx hb dX8_isPlaceOrAll_12 (by decide) ?_
    refine lv_goto (tgt := 17) hx hb dX8_isPlaceOrAll_13 (by decide) ?_
    exact W.zret (v := nI 1) hx hb hrt (z1) (fun t9 ht9 hW9 => ⟨_, rfl, bt (by unfold plQ; first | rw [decide_eq_true c_2]; rfl | rw [n_9, Bool.or_true]), ht9⟩) (fun _ h9 => nomatch h9) dX8_isPlaceOrAll_17 hlk
  · refine lv_iload_n hx hb dX8_isPlaceOrAll_5 rfl (lv_at hl 0 rfl) ?_
    refine cSi (As := [.int x]) (rest := []) (m_X8_isPlace l x) S k_X8_isPlace gX8_isPlaceOrAll_X8_isPlace ⟨Nat.le_of_ble_eq_true rfl, Nat.le_of_ble_eq_true rfl⟩ rfl hl.1 (Nat.le_of_ble_eq_true rfl) rfl dX8_isPlaceOrAll_6 ⟨Nat.le_of_ble_eq_true rfl, Nat.le_of_ble_eq_true rfl⟩ (fun r hr => ?_)
    subst hr
    refine lv_if_eq (tgt := 16) hx hb dX8_isPlaceOrAll_9 (by decide) (fun c_9 => ?_) (fun c_9 => ?_)
    · have n_9 := bI_z.mp c_9
      refine lv_iconst (v := nI 0) hx hb dX8_isPlaceOrAll_16 (by decide) ?_
      exact W.zret (v := nI 0) hx hb hrt (z0) (fun t9 ht9 hW9 => ⟨_, rfl, bf (by unfold plQ; rw [decide_eq_false c_2, n_9]; rfl), ht9⟩) (fun _ h9 => nomatch h9) dX8_isPlaceOrAll_17 hlk
    · have n_9 := bI_nz.mp c_9
      refine lv_iconst (v := nI 1) hx hb dX8_isPlaceOrAll_12 (by decide) ?_
      refine lv_goto (tgt := 17) hx hb dX8_isPlaceOrAll_13 (by decide) ?_
      exact W.zret (v := nI 1) hx hb hrt (z1) (fun t9 ht9 hW9 => ⟨_, rfl, bt (by unfold plQ; first | rw [decide_eq_true c_2]; rfl | rw [n_9, Bool.or_true]), ht9⟩) (fun _ h9 => nomatch h9) dX8_isPlaceOrAll_17 hlk

abbrev rm_X8_total : Room := { frames := 5, cells := 0, slots := 0, locals := 117 }
theorem k_X8_total : Cal yX8_total wsX8_total rm_X8_total cX8_total 2 (some .int) 1 0 0 := ⟨⟨_, rfl⟩, rfl, rfl, by decide +kernel⟩
set_option maxHeartbeats 4000000 in
set_option maxRecDepth 100000 in
theorem m_X8_total (l : Launch) (Γ : Gm) (a : Nat → Nat) (rf : Nat → Option Nat) (f : Nat → Nat → Int32) (z : Nat → Int32) (σ : Nat → Nat) (hR : Rep σ f z) (hI : Inv σ) (w : Nat) (hw : w < 10) : MRi l yX8_total wsX8_total rm_X8_total Γ (wXp Γ a rf f z) [.ref (a 34), .int (nI w)] (fun r => r = cntQ σ (z 4) w) := by
  refine mR (cc := cX8_total) (maxL := 2) (ret := (some .int)) (own := RX8) (by decide) rfl rfl (Nat.le_of_ble_eq_true rfl) ?_
  intro p e s m args below meth c S hrt hlk hK hP ls hl
  obtain ⟨hx, hb, hml, hown, hts⟩ := id S
  have hvp := veil_pair hI
  have hl : lv_has ls 2 [(0, .ref (a 34)), (1, .int (nI w))] := hl
  have hP : gP Γ (wXp Γ a rf f z) s.heap := hP
  refine lv_iload_n hx hb dX8_total_0 rfl (lv_at hl 1 rfl) ?_
  rcases (by omega : w = 0 ∨ w = 1 ∨ w = 2 ∨ w = 3 ∨ w = 4 ∨ w = 5 ∨ w = 6 ∨ w = 7 ∨ w = 8 ∨ w = 9) with rfl | rfl | rfl | rfl | rfl | rfl | rfl | rfl | rfl | rfl
  · refine lv_tableIn (off := 51) (tgt := 52) hx hb dX8_total_1 (by decide) (by decide) (by decide) (by decide) ?_
    refine lv_aload_n hx hb dX8_total_52 rfl (lv_at hl 0 rfl) ?_
    refine va_get (D := Γ.1) (ci := 8) (v := .ref (a 0)) (C := RX8) (T := TX8) (N := 3) hx hb hts (by decide +kernel) hown hK hP 0 rfl rfl 0 (by decide) (hts (.fieldLink RX8 10 "RowVeils" "state" "LRowVeils$State;") (by decide +kernel)) (fun _ h9 => h9) rfl dX8_total_53 ?_
    refine va_get (D := Γ.1) (ci := 6) (v := .ref (a 1)) (C := RX6) (T := TX6) (N := 6) hx hb hts (by decide +kernel) hown hK hP 1 rfl rfl 0 (by decide) (hts (.fieldLink RX8 56 "RowVeils$State" "rows" "LRowVeils$Rows;") (by decide +kernel)) (fun _ h9 => h9) rfl dX8_total_56 ?_
    refine va_get (D := Γ.1) (ci := 5) (v := .int (z 0)) (C := RX5) (T := TX5) (N := 5) hx hb hts (by decide +kernel) hown hK hP 2 rfl rfl 4 (by decide) (hts (.fieldLink RX8 75 "RowVeils$Rows" "size" "I") (by decide +kernel)) (fun _ h9 => h9) rfl dX8_total_59 ?_
    refine asi (z := nI (σ 0)) (hR.n) ?_
    exact W.iret (v := nI (σ 0)) hx hb hrt (fun t9 ht9 hW9 => ⟨_, rfl, rfl, ht9⟩) (fun _ h9 => nomatch h9) dX8_total_62 hlk
  · refine lv_tableIn (off := 62) (tgt := 63) hx hb dX8_total_1 (by decide) (by decide) (by decide) (by decide) ?_
    refine lv_aload_n hx hb dX8_total_63 rfl (lv_at hl 0 rfl) ?_
    refine va_get (D := Γ.1) (ci := 8) (v := .ref (a 0)) (C := RX8) (T := TX8) (N := 3) hx hb hts (by decide +kernel) hown hK hP 0 rfl rfl 0 (by decide) (hts (.fieldLink RX8 10 "RowVeils" "state" "LRowVeils$State;") (by decide +kernel)) (fun _ h9 => h9) rfl dX8_total_64 ?_
    refine va_get (D := Γ.1) (ci := 6) (v := .int (z 1)) (C := RX6) (T := TX6) (N := 6) hx hb hts (by decide +kernel) hown hK hP 1 rfl rfl 5 (by decide) (hts (.fieldLink RX8 139 "RowVeils$State" "rules" "I") (by decide +kernel)) (fun _ h9 => h9) rfl dX8_total_67 ?_
    refine asi (z := nI (σ 1)) (hR.rules) ?_
    exact W.iret (v := nI (σ 1)) hx hb hrt (fun t9 ht9 hW9 => ⟨_, rfl, rfl, ht9⟩) (fun _ h9 => nomatch h9) dX8_total_70 hlk
  · refine lv_tableIn (off := 70) (tgt := 71) hx hb dX8_total_1 (by decide) (by decide) (by decide) (by decide) ?_
    refine lv_aload_n hx hb dX8_total_71 rfl (lv_at hl 0 rfl) ?_
    refine va_get (D := Γ.1) (ci := 8) (v := .ref (a 0)) (C := RX8) (T := TX8) (N := 3) hx hb hts (by decide +kernel) hown hK hP 0 rfl rfl 0 (by decide) (hts (.fieldLink RX8 10 "RowVeils" "state" "LRowVeils$State;") (by decide +kernel)) (fun _ h9 => h9) rfl dX8_total_72 ?_
    refine va_get (D := Γ.1) (ci := 6) (v := .ref (a 27)) (C := RX6) (T := TX6) (N := 6) hx hb hts (by decide +kernel) hown hK hP 1 rfl rfl 4 (by decide) (hts (.fieldLink RX8 144 "RowVeils$State" "settings" "LRowVeils$Numbers;") (by decide +kernel)) (fun _ h9 => h9) rfl dX8_total_75 ?_
    refine lv_iconst (v := nI 0) hx hb dX8_total_78 (by decide) ?_
    refine cRi (As := [.int (nI 0)]) (rest := []) (m_X3_get l Γ (a 27) (a 28) 3 0 (f 11) (by decide) (by omega)) S k_X3_get gX8_total_X3_get rfl ⟨Nat.le_of_ble_eq_true rfl, Nat.le_of_ble_eq_true rfl⟩ hK hP [28, 29] rfl 0 (ci := 3) rfl rfl rfl rfl hl.1 (Nat.le_of_ble_eq_true rfl) rfl dX8_total_79 ⟨Nat.le_of_ble_eq_true rfl, Nat.le_of_ble_eq_true rfl⟩ (fun r hr => ?_)
    subst hr
    refine asi (z := nI (σ 2)) (hR.set (by decide)) ?_
    exact W.iret (v := nI (σ 2)) hx hb hrt (fun t9 ht9 hW9 => ⟨_, rfl, rfl, ht9⟩) (fun _ h9 => nomatch h9) dX8_total_82 hlk
  · refine lv_tableIn (off := 82) (tgt := 83) hx hb dX8_total_1 (by decide) (by decide) (by decide) (by decide) ?_
    refine lv_aload_n hx hb dX8_total_83 rfl (lv_at hl 0 rfl) ?_
    refine va_get (D := Γ.1) (ci := 8) (v := .ref (a 0)) (C := RX8) (T := TX8) (N := 3) hx hb hts (by decide +kernel) hown hK hP 0 rfl rfl 0 (by decide) (hts (.fieldLink RX8 10 "RowVeils" "state" "LRowVeils$State;") (by decide +kernel)) (fun _ h9 => h9) rfl dX8_total_84 ?_
    refine va_get (D := Γ.1) (ci := 6) (v := .ref (a 27)) (C := RX6) (T := TX6) (N := 6) hx hb hts (by decide +kernel) hown hK hP 1 rfl rfl 4 (by decide) (hts (.fieldLink RX8 144 "RowVeils$State" "settings" "LRowVeils$Numbers;") (by decide +kernel)) (fun _ h9 => h9) rfl dX8_total_87 ?_
    refine lv_iconst (v := nI 1) hx hb dX8_total_90 (by decide) ?_
    refine cRi (As := [.int (nI 1)]) (rest := []) (m_X3_get l Γ (a 27) (a 28) 3 1 (f 11) (by decide) (by omega)) S k_X3_get gX8_total_X3_get rfl ⟨Nat.le_of_ble_eq_true rfl, Nat.le_of_ble_eq_true rfl⟩ hK hP [28, 29] rfl 0 (ci := 3) rfl rfl rfl rfl hl.1 (Nat.le_of_ble_eq_true rfl) rfl dX8_total_91 ⟨Nat.le_of_ble_eq_true rfl, Nat.le_of_ble_eq_true rfl⟩ (fun r hr => ?_)
    subst hr
    refine asi (z := nI (σ 3)) (hR.set (by decide)) ?_
    exact W.iret (v := nI (σ 3)) hx hb hrt (fun t9 ht9 hW9 => ⟨_, rfl, rfl, ht9⟩) (fun _ h9 => nomatch h9) dX8_total_94 hlk
  · refine lv_tableIn (off := 94) (tgt := 95) hx hb dX8_total_1 (by decide) (by decide) (by decide) (by decide) ?_
    refine lv_aload_n hx hb dX8_total_95 rfl (lv_at hl 0 rfl) ?_
    refine va_get (D := Γ.1) (ci := 8) (v := .ref (a 0)) (C := RX8) (T := TX8) (N := 3) hx hb hts (by decide +kernel) hown hK hP 0 rfl rfl 0 (by decide) (hts (.fieldLink RX8 10 "RowVeils" "state" "LRowVeils$State;") (by decide +kernel)) (fun _ h9 => h9) rfl dX8_total_96 ?_
    refine va_get (D := Γ.1) (ci := 6) (v := .ref (a 27)) (C := RX6) (T := TX6) (N := 6) hx hb hts (by decide +kernel) hown hK hP 1 rfl rfl 4 (by decide) (hts (.fieldLink RX8 144 "RowVeils$State" "settings" "LRowVeils$Numbers;") (by decide +kernel)) (fun _ h9 => h9) rfl dX8_total_99 ?_
    refine lv_iconst (v := nI 2) hx hb dX8_total_102 (by decide) ?_
    refine cRi (As := [.int (nI 2)]) (rest := []) (m_X3_get l Γ (a 27) (a 28) 3 2 (f 11) (by decide) (by omega)) S k_X3_get gX8_total_X3_get rfl ⟨Nat.le_of_ble_eq_true rfl, Nat.le_of_ble_eq_true rfl⟩ hK hP [28, 29] rfl 0 (ci := 3) rfl rfl rfl rfl hl.1 (Nat.le_of_ble_eq_true rfl) rfl dX8_total_103 ⟨Nat.le_of_ble_eq_true rfl, Nat.le_of_ble_eq_true rfl⟩ (fun r hr => ?_)
    subst hr
    refine asi (z := nI (σ 4)) (hR.set (by decide)) ?_
    exact W.iret (v := nI (σ 4)) hx hb hrt (fun t9 ht9 hW9 => ⟨_, rfl, rfl, ht9⟩) (fun _ h9 => nomatch h9) dX8_total_106 hlk
  · refine lv_tableIn (off := 106) (tgt := 107) hx hb dX8_total_1 (by decide) (by decide) (by decide) (by decide) ?_
    refine lv_aload_n hx hb dX8_total_107 rfl (lv_at hl 0 rfl) ?_
    refine va_get (D := Γ.1) (ci := 8) (v := .ref (a 0)) (C := RX8) (T := TX8) (N := 3) hx hb hts (by decide +kernel) hown hK hP 0 rfl rfl 0 (by decide) (hts (.fieldLink RX8 10 "RowVeils" "state" "LRowVeils$State;") (by decide +kernel)) (fun _ h9 => h9) rfl dX8_total_108 ?_
    refine va_get (D := Γ.1) (ci := 6) (v := .ref (a 22)) (C := RX6) (T := TX6) (N := 6) hx hb hts (by decide +kernel) hown hK hP 1 rfl rfl 3 (by decide) (hts (.fieldLink RX8 157 "RowVeils$State" "tallies" "LRowVeils$Tallies;") (by decide +kernel)) (fun _ h9 => h9) rfl dX8_total_111 ?_
    refine va_get (D := Γ.1) (ci := 7) (v := .ref (a 23)) (C := RX7) (T := TX7) (N := 3) hx hb hts (by decide +kernel) hown hK hP 23 rfl rfl 0 (by decide) (hts (.fieldLink RX8 303 "RowVeils$Tallies" "answers" "LRowVeils$Numbers;") (by decide +kernel)) (fun _ h9 => h9) rfl dX8_total_114 ?_
    refine cRi (As := []) (rest := []) (m_X3_sum l Γ (a 23) (a 24) 5 (f 9) (by decide)) S k_X3_sum gX8_total_X3_sum rfl ⟨Nat.le_of_ble_eq_true rfl, Nat.le_of_ble_eq_true rfl⟩ hK hP [24, 25] rfl 0 (ci := 3) rfl rfl rfl rfl hl.1 (Nat.le_of_ble_eq_true rfl) rfl dX8_total_117 ⟨Nat.le_of_ble_eq_true rfl, Nat.le_of_ble_eq_true rfl⟩ (fun r hr => ?_)
    subst hr
    exact W.iret (v := sumI (f 9) 5) hx hb hrt (fun t9 ht9 hW9 => ⟨_, rfl, by rw [sumI_P (σ := σ) (w := 3) (fun p hp => hR.asked hp) (Nat.le_refl 5)]; rfl, ht9⟩) (fun _ h9 => nomatch h9) dX8_total_120 hlk
  · refine lv_tableIn (off := 120) (tgt := 121) hx hb dX8_total_1 (by decide) (by decide) (by decide) (by decide) ?_
    refine lv_aload_n hx hb dX8_total_121 rfl (lv_at hl 0 rfl) ?_
    refine va_get (D := Γ.1) (ci := 8) (v := .ref (a 0)) (C := RX8) (T := TX8) (N := 3) hx hb hts (by decide +kernel) hown hK hP 0 rfl rfl 0 (by decide) (hts (.fieldLink RX8 10 "RowVeils" "state" "LRowVeils$State;") (by decide +kernel)) (fun _ h9 => h9) rfl dX8_total_122 ?_
    refine va_get (D := Γ.1) (ci := 6) (v := .ref (a 22)) (C := RX6) (T := TX6) (N := 6) hx hb hts (by decide +kernel) hown hK hP 1 rfl rfl 3 (by decide) (hts (.fieldLink RX8 157 "RowVeils$State" "tallies" "LRowVeils$Tallies;") (by decide +kernel)) (fun _ h9 => h9) rfl dX8_total_125 ?_
    refine va_get (D := Γ.1) (ci := 7) (v := .ref (a 25)) (C := RX7) (T := TX7) (N := 3) hx hb hts (by decide +kernel) hown hK hP 23 rfl rfl 1 (by decide) (hts (.fieldLink RX8 309 "RowVeils$Tallies" "refusals" "LRowVeils$Numbers;") (by decide +kernel)) (fun _ h9 => h9) rfl dX8_total_128 ?_
    refine cRi (As := []) (rest := []) (m_X3_sum l Γ (a 25) (a 26) 5 (f 10) (by decide)) S k_X3_sum gX8_total_X3_sum rfl ⟨Nat.le_of_ble_eq_true rfl, Nat.le_of_ble_eq_true rfl⟩ hK hP [26, 27] rfl 0 (ci := 3) rfl rfl rfl rfl hl.1 (Nat.le_of_ble_eq_true rfl) rfl dX8_total_131 ⟨Nat.le_of_ble_eq_true rfl, Nat.le_of_ble_eq_true rfl⟩ (fun r hr => ?_)
    subst hr
    exact W.iret (v := sumI (f 10) 5) hx hb hrt (fun t9 ht9 hW9 => ⟨_, rfl, by rw [sumI_P (σ := σ) (w := 4) (fun p hp => hR.refused hp) (Nat.le_refl 5)]; rfl, ht9⟩) (fun _ h9 => nomatch h9) dX8_total_134 hlk
  · refine lv_tableIn (off := 134) (tgt := 135) hx hb dX8_total_1 (by decide) (by decide) (by decide) (by decide) ?_
    refine lv_aload_n hx hb dX8_total_135 rfl (lv_at hl 0 rfl) ?_
    refine va_get (D := Γ.1) (ci := 8) (v := .ref (a 0)) (C := RX8) (T := TX8) (N := 3) hx hb hts (by decide +kernel) hown hK hP 0 rfl rfl 0 (by decide) (hts (.fieldLink RX8 10 "RowVeils" "state" "LRowVeils$State;") (by decide +kernel)) (fun _ h9 => h9) rfl dX8_total_136 ?_
    refine va_get (D := Γ.1) (ci := 6) (v := .ref (a 22)) (C := RX6) (T := TX6) (N := 6) hx hb hts (by decide +kernel) hown hK hP 1 rfl rfl 3 (by decide) (hts (.fieldLink RX8 157 "RowVeils$State" "tallies" "LRowVeils$Tallies;") (by decide +kernel)) (fun _ h9 => h9) rfl dX8_total_139 ?_
    refine va_get (D := Γ.1) (ci := 7) (v := .int (z 2)) (C := RX7) (T := TX7) (N := 3) hx hb hts (by decide +kernel) hown hK hP 23 rfl rfl 2 (by decide) (hts (.fieldLink RX8 171 "RowVeils$Tallies" "givenAway" "I") (by decide +kernel)) (fun _ h9 => h9) rfl dX8_total_142 ?_
    refine asi (z := nI (σ 5)) (hR.given) ?_
    exact W.iret (v := nI (σ 5)) hx hb hrt (fun t9 ht9 hW9 => ⟨_, rfl, rfl, ht9⟩) (fun _ h9 => nomatch h9) dX8_total_145 hlk
  · refine lv_tableIn (off := 145) (tgt := 146) hx hb dX8_total_1 (by decide) (by decide) (by decide) (by decide) ?_
    refine lv_aload_n hx hb dX8_total_146 rfl (lv_at hl 0 rfl) ?_
    refine va_get (D := Γ.1) (ci := 8) (v := .ref (a 0)) (C := RX8) (T := TX8) (N := 3) hx hb hts (by decide +kernel) hown hK hP 0 rfl rfl 0 (by decide) (hts (.fieldLink RX8 10 "RowVeils" "state" "LRowVeils$State;") (by decide +kernel)) (fun _ h9 => h9) rfl dX8_total_147 ?_
    refine va_get (D := Γ.1) (ci := 6) (v := .ref (a 1)) (C := RX6) (T := TX6) (N := 6) hx hb hts (by decide +kernel) hown hK hP 1 rfl rfl 0 (by decide) (hts (.fieldLink RX8 56 "RowVeils$State" "rows" "LRowVeils$Rows;") (by decide +kernel)) (fun _ h9 => h9) rfl dX8_total_150 ?_
    refine va_get (D := Γ.1) (ci := 5) (v := .int (z 0)) (C := RX5) (T := TX5) (N := 5) hx hb hts (by decide +kernel) hown hK hP 2 rfl rfl 4 (by decide) (hts (.fieldLink RX8 75 "RowVeils$Rows" "size" "I") (by decide +kernel)) (fun _ h9 => h9) rfl dX8_total_153 ?_
    refine asi (z := nI (σ 0)) (hR.n) ?_
    refine lv_iconst (v := nI 5) hx hb dX8_total_156 (by decide) ?_
    refine lv_imul hx hb dX8_total_157 ?_
    refine asi (z := nI ((σ 0) * 5)) (pk_mul _ _) ?_
    refine lv_aload_n hx hb dX8_total_158 rfl (lv_at hl 0 rfl) ?_
    refine va_get (D := Γ.1) (ci := 8) (v := .ref (a 0)) (C := RX8) (T := TX8) (N := 3) hx hb hts (by decide +kernel) hown hK hP 0 rfl rfl 0 (by decide) (hts (.fieldLink RX8 10 "RowVeils" "state" "LRowVeils$State;") (by decide +kernel)) (fun _ h9 => h9) rfl dX8_total_159 ?_
    refine cRi (As := []) (rest := [.int (nI ((σ 0) * 5))]) (m_X6_pairsSeen l Γ a f z σ hR hI ) S k_X6_pairsSeen gX8_total_X6_pairsSeen rfl ⟨Nat.le_of_ble_eq_true rfl, Nat.le_of_ble_eq_true rfl⟩ hK hP [1, 2, 3, 4, 5, 6, 7, 8, 9, 10, 11, 12, 13, 14, 15, 16, 17, 18, 19, 20, 21, 22, 23, 24, 25, 26, 27, 28, 29] rfl 0 (ci := 6) rfl rfl rfl rfl hl.1 (Nat.le_of_ble_eq_true rfl) rfl dX8_total_162 ⟨Nat.le_of_ble_eq_true rfl, Nat.le_of_ble_eq_true rfl⟩ (fun r hr => ?_)
    subst hr
    refine lv_isub hx hb dX8_total_165 ?_
    refine asi (z := nI (σ 0 * 5 - pairS σ 5)) (pk_sub (by omega)) ?_
    exact W.iret (v := nI (σ 0 * 5 - pairS σ 5)) hx hb hrt (fun t9 ht9 hW9 => ⟨_, rfl, by show _ = nI (veilN σ); rw [show veilN σ = σ 0 * 5 - pairS σ 5 from by omega], ht9⟩) (fun _ h9 => nomatch h9) dX8_total_166 hlk
  · refine lv_tableOut (tgt := 167) hx hb dX8_total_1 (by decide) (by decide) ?_
    refine lv_aload_n hx hb dX8_total_167 rfl (lv_at hl 0 rfl) ?_
    refine va_get (D := Γ.1) (ci := 8) (v := .ref (a 29)) (C := RX8) (T := TX8) (N := 3) hx hb hts (by decide +kernel) hown hK hP 0 rfl rfl 1 (by decide) (hts (.fieldLink RX8 19 "RowVeils" "history" "LRowVeils$History;") (by decide +kernel)) (fun _ h9 => h9) rfl dX8_total_168 ?_
    refine va_get (D := Γ.1) (ci := 1) (v := .int (z 4)) (C := RX1) (T := TX1) (N := 3) hx hb hts (by decide +kernel) hown hK hP 30 rfl rfl 2 (by decide) (hts (.fieldLink RX8 213 "RowVeils$History" "held" "I") (by decide +kernel)) (fun _ h9 => h9) rfl dX8_total_171 ?_
    exact W.iret (v := z 4) hx hb hrt (fun t9 ht9 hW9 => ⟨_, rfl, rfl, ht9⟩) (fun _ h9 => nomatch h9) dX8_total_174 hlk

abbrev rm_X8_answerIf : Room := { frames := 4, cells := 0, slots := 0, locals := 89 }
theorem k_X8_answerIf : Cal yX8_answerIf wsX8_answerIf rm_X8_answerIf cX8_answerIf 7 (some .int) 5 0 0 := ⟨⟨_, rfl⟩, rfl, rfl, by decide +kernel⟩
set_option maxHeartbeats 4000000 in
set_option maxRecDepth 100000 in
theorem m_X8_answerIf (l : Launch) (Γ : Gm) (a : Nat → Nat) (rf : Nat → Option Nat) (f : Nat → Nat → Int32) (z : Nat → Int32) (σ : Nat → Nat) (hR : Rep σ f z) (hI : Inv σ) (p0 : Nat) (hp : p0 < 5) (pl : Int32) (lo hi2 : Nat) (hlo : lo < 2 ^ 31) (hhi : hi2 < 2 ^ 31) (w : Nat) (hw : w < 4) : MRi l yX8_answerIf wsX8_answerIf rm_X8_answerIf Γ (wXp Γ a rf f z) [.ref (a 34), .int (nI p0), .int pl, .int (nI lo), .int (nI hi2), .int (nI w)] (fun r => r = wouQ σ p0 pl lo hi2 w) := by
  refine mR (cc := cX8_answerIf) (maxL := 7) (ret := (some .int)) (own := RX8) (by decide) rfl rfl (Nat.le_of_ble_eq_true rfl) ?_
  intro p e s m args below meth c S hrt hlk hK hP ls hl
  obtain ⟨hx, hb, hml, hown, hts⟩ := id S
  have hsl := seenQ_lt hI p0 pl lo hi2
  have hl : lv_has ls 7 [(0, .ref (a 34)), (1, .int (nI p0)), (2, .int pl), (3, .int (nI lo)), (4, .int (nI hi2)), (5, .int (nI w))] := hl
  have hP : gP Γ (wXp Γ a rf f z) s.heap := hP
  refine lv_iload hx hb dX8_answerIf_0 (lv_at hl 5 rfl) ?_
  refine lv_iconst (v := nI 3) hx hb dX8_answerIf_2 (by decide) ?_
  refine lv_icmp_ne (tgt := 21) hx hb dX8_answerIf_3 (by decide) (fun c_3 => ?_) (fun c_3 => ?_)
  · have n_3 := (not_congr (nI_eq (a := w) (b := 3) (by omega) (by omega))).mp c_3
    refine lv_aload_n hx hb dX8_answerIf_21 rfl (lv_at hl 0 rfl) ?_
    refine va_get (D := Γ.1) (ci := 8) (v := .ref (a 0)) (C := RX8) (T := TX8) (N := 3) hx hb hts (by decide +kernel) hown hK hP 0 rfl rfl 0 (by decide) (hts (.fieldLink RX8 10 "RowVeils" "state" "LRowVeils$State;") (by decide +kernel)) (fun _ h9 => h9) rfl dX8_answerIf_22 ?_
    refine lv_iload_n hx hb dX8_answerIf_25 rfl (lv_at hl 1 rfl) ?_
    refine lv_iload_n hx hb dX8_answerIf_26 rfl (lv_at hl 2 rfl) ?_
    refine lv_iload_n hx hb dX8_answerIf_27 rfl (lv_at hl 3 rfl) ?_
    refine lv_iload hx hb dX8_answerIf_28 (lv_at hl 4 rfl) ?_
    refine cRi (As := [.int (nI p0), .int pl, .int (nI lo), .int (nI hi2)]) (rest := []) (m_X6_seenRows l Γ a f z σ hR hI p0 hp pl lo hi2 hlo hhi) S k_X6_seenRows gX8_answerIf_X6_seenRows rfl ⟨Nat.le_of_ble_eq_true rfl, Nat.le_of_ble_eq_true rfl⟩ hK hP [1, 2, 3, 4, 5, 6, 7, 8, 9, 10, 11, 12, 13, 14, 15, 16, 17, 18, 19, 20, 21, 22, 23, 24, 25, 26, 27, 28, 29] rfl 0 (ci := 6) rfl rfl rfl rfl hl.1 (Nat.le_of_ble_eq_true rfl) rfl dX8_answerIf_30 ⟨Nat.le_of_ble_eq_true rfl, Nat.le_of_ble_eq_true rfl⟩ (fun r hr => ?_)
    subst hr
    refine lv_istore (lv' := [(6, .int (nI (seenQ σ p0 pl lo hi2))), (0, .ref (a 34)), (1, .int (nI p0)), (2, .int pl), (3, .int (nI lo)), (4, .int (nI hi2)), (5, .int (nI w))]) hx hb dX8_answerIf_33 hl (by decide) rfl (fun ls hl => ?_)
    refine lv_iload hx hb dX8_answerIf_35 (lv_at hl 6 rfl) ?_
    rcases (by omega : w = 0 ∨ w = 1 ∨ w = 2) with rfl | rfl | rfl
    · refine lv_lookup (off := 27) (tgt := 64) hx hb dX8_answerIf_37 (by decide) (by decide) (by decide) ?_
      refine lv_aload_n hx hb dX8_answerIf_64 rfl (lv_at hl 1 rfl) ?_
      refine va_get (D := Γ.1) (ci := 8) (v := .ref (a 0)) (C := RX8) (T := TX8) (N := 3) hx hb hts (by decide +kernel) hown hK hP 0 rfl rfl 0 (by decide) (hts (.fieldLink RX8 10 "RowVeils" "state" "LRowVeils$State;") (by decide +kernel)) (fun _ h9 => h9) rfl dX8_answerIf_65 ?_
      refine lv_iload_n hx hb dX8_answerIf_68 rfl (lv_at hl 2 rfl) ?_
      refine lv_iload hx hb dX8_answerIf_69 (lv_at hl 0 rfl) ?_
      refine cRi (As := [.int (nI p0), .int (nI (seenQ σ p0 pl lo hi2))]) (rest := []) (m_X6_countAnswer l Γ a f z σ hR hI p0 hp (seenQ σ p0 pl lo hi2) hsl) S k_X6_countAnswer gX8_answerIf_X6_countAnswer rfl ⟨Nat.le_of_ble_eq_true rfl, Nat.le_of_ble_eq_true rfl⟩ hK hP [1, 2, 3, 4, 5, 6, 7, 8, 9, 10, 11, 12, 13, 14, 15, 16, 17, 18, 19, 20, 21, 22, 23, 24, 25, 26, 27, 28, 29] rfl 0 (ci := 6) rfl rfl rfl rfl hl.1 (Nat.le_of_ble_eq_true rfl) rfl dX8_answerIf_71 ⟨Nat.le_of_ble_eq_true rfl, Nat.le_of_ble_eq_true rfl⟩ (fun r hr => ?_)
      subst hr
      exact W.iret (v := cAns σ p0 (seenQ σ p0 pl lo hi2)) hx hb hrt (fun t9 ht9 hW9 => ⟨_, rfl, rfl, ht9⟩) (fun _ h9 => nomatch h9) dX8_answerIf_74 hlk
    · refine lv_lookup (off := 38) (tgt := 75) hx hb dX8_answerIf_37 (by decide) (by decide) (by decide) ?_
      refine lv_aload_n hx hb dX8_answerIf_75 rfl (lv_at hl 1 rfl) ?_
      refine va_get (D := Γ.1) (ci := 8) (v := .ref (a 0)) (C := RX8) (T := TX8) (N := 3) hx hb hts (by decide +kernel) hown hK hP 0 rfl rfl 0 (by decide) (hts (.fieldLink RX8 10 "RowVeils" "state" "LRowVeils$State;") (by decide +kernel)) (fun _ h9 => h9) rfl dX8_answerIf_76 ?_
      refine lv_iload hx hb dX8_answerIf_79 (lv_at hl 0 rfl) ?_
      refine cRi (As := [.int (nI (seenQ σ p0 pl lo hi2))]) (rest := []) (m_X6_sumAnswer l Γ a f z σ hR hI (seenQ σ p0 pl lo hi2) hsl) S k_X6_sumAnswer gX8_answerIf_X6_sumAnswer rfl ⟨Nat.le_of_ble_eq_true rfl, Nat.le_of_ble_eq_true rfl⟩ hK hP [1, 2, 3, 4, 5, 6, 7, 8, 9, 10, 11, 12, 13, 14, 15, 16, 17, 18, 19, 20, 21, 22, 23, 24, 25, 26, 27, 28, 29] rfl 0 (ci := 6) rfl rfl rfl rfl hl.1 (Nat.le_of_ble_eq_true rfl) rfl dX8_answerIf_81 ⟨Nat.le_of_ble_eq_true rfl, Nat.le_of_ble_eq_true rfl⟩ (fun r hr => ?_)
      subst hr
      exact W.iret (v := sAns σ (seenQ σ p0 pl lo hi2)) hx hb hrt (fun t9 ht9 hW9 => ⟨_, rfl, rfl, ht9⟩) (fun _ h9 => nomatch h9) dX8_answerIf_84 hlk
    · refine lv_lookup (off := 48) (tgt := 85) hx hb dX8_answerIf_37 (by decide) (by decide) (by decide) ?_
      refine lv_aload_n hx hb dX8_answerIf_85 rfl (lv_at hl 1 rfl) ?_
      refine va_get (D := Γ.1) (ci := 8) (v := .ref (a 0)) (C := RX8) (T := TX8) (N := 3) hx hb hts (by decide +kernel) hown hK hP 0 rfl rfl 0 (by decide) (hts (.fieldLink RX8 10 "RowVeils" "state" "LRowVeils$State;") (by decide +kernel)) (fun _ h9 => h9) rfl dX8_answerIf_86 ?_
      refine va_get (D := Γ.1) (ci := 6) (v := .ref (a 17)) (C := RX6) (T := TX6) (N := 6) hx hb hts (by decide +kernel) hown hK hP 1 rfl rfl 2 (by decide) (hts (.fieldLink RX8 90 "RowVeils$State" "memory" "LRowVeils$Memory;") (by decide +kernel)) (fun _ h9 => h9) rfl dX8_answerIf_89 ?_
      refine lv_iload_n hx hb dX8_answerIf_92 rfl (lv_at hl 2 rfl) ?_
      refine lv_iload hx hb dX8_answerIf_93 (lv_at hl 0 rfl) ?_
      refine cRi (As := [.int (nI p0), .int (nI (seenQ σ p0 pl lo hi2))]) (rest := []) (m_X2_givesAway l Γ (fun k => a (k + 17)) (fun k => f (k + 7)) p0 (oK σ p0) hp (hI.kept hp) (hR.kept hp) (nI (seenQ σ p0 pl lo hi2))) S k_X2_givesAway gX8_answerIf_X2_givesAway rfl ⟨Nat.le_of_ble_eq_true rfl, Nat.le_of_ble_eq_true rfl⟩ hK hP [18, 19, 20, 21, 22] rfl 0 (ci := 2) rfl rfl rfl rfl hl.1 (Nat.le_of_ble_eq_true rfl) rfl dX8_answerIf_95 ⟨Nat.le_of_ble_eq_true rfl, Nat.le_of_ble_eq_true rfl⟩ (fun r hr => ?_)
      subst hr
      rw [gvI_S (σ := σ) hsl (fun k hk => ⟨hR.mask hp hk, hI.mask hp hk⟩)]
      refine asi (z := bI (givesQ σ p0 (seenQ σ p0 pl lo hi2))) rfl ?_
      refine lv_if_eq (tgt := 105) hx hb dX8_answerIf_98 (by decide) (fun c_98 => ?_) (fun c_98 => ?_)
      · have n_98 := bI_z.mp c_98
        refine lv_iconst (v := nI 0) hx hb dX8_answerIf_105 (by decide) ?_
        exact W.iret (v := nI 0) hx hb hrt (fun t9 ht9 hW9 => ⟨_, rfl, bf n_98, ht9⟩) (fun _ h9 => nomatch h9) dX8_answerIf_106 hlk
      · have n_98 := bI_nz.mp c_98
        refine lv_iconst (v := nI 1) hx hb dX8_answerIf_101 (by decide) ?_
        refine lv_goto (tgt := 106) hx hb dX8_answerIf_102 (by decide) ?_
        exact W.iret (v := nI 1) hx hb hrt (fun t9 ht9 hW9 => ⟨_, rfl, bt n_98, ht9⟩) (fun _ h9 => nomatch h9) dX8_answerIf_106 hlk
  · have n_3 := (nI_eq (a := w) (b := 3) (by omega) (by omega)).mp c_3
    refine lv_aload_n hx hb dX8_answerIf_6 rfl (lv_at hl 0 rfl) ?_
    refine va_get (D := Γ.1) (ci := 8) (v := .ref (a 0)) (C := RX8) (T := TX8) (N := 3) hx hb hts (by decide +kernel) hown hK hP 0 rfl rfl 0 (by decide) (hts (.fieldLink RX8 10 "RowVeils" "state" "LRowVeils$State;") (by decide +kernel)) (fun _ h9 => h9) rfl dX8_answerIf_7 ?_
    refine va_get (D := Γ.1) (ci := 6) (v := .ref (a 1)) (C := RX6) (T := TX6) (N := 6) hx hb hts (by decide +kernel) hown hK hP 1 rfl rfl 0 (by decide) (hts (.fieldLink RX8 56 "RowVeils$State" "rows" "LRowVeils$Rows;") (by decide +kernel)) (fun _ h9 => h9) rfl dX8_answerIf_10 ?_
    refine lv_iload_n hx hb dX8_answerIf_13 rfl (lv_at hl 2 rfl) ?_
    refine lv_iload_n hx hb dX8_answerIf_14 rfl (lv_at hl 3 rfl) ?_
    refine lv_iload hx hb dX8_answerIf_15 (lv_at hl 4 rfl) ?_
    refine cRi (As := [.int pl, .int (nI lo), .int (nI hi2)]) (rest := []) (m_X5_howManyMatch l Γ (fun k => a (k + 1)) f (σ 0) hI.n (fun k => oR σ k 1) (fun k => oR σ k 2) pl lo hi2 (fun k hk => hR.pla hk) (fun k hk => ⟨hR.val hk, (hI.row hk).2.2.1⟩) hlo hhi (z 0) hR.n) S k_X5_howManyMatch gX8_answerIf_X5_howManyMatch rfl ⟨Nat.le_of_ble_eq_true rfl, Nat.le_of_ble_eq_true rfl⟩ hK hP [2, 3, 4, 5, 6, 7, 8, 9, 10] rfl 0 (ci := 5) rfl rfl rfl rfl hl.1 (Nat.le_of_ble_eq_true rfl) rfl dX8_answerIf_17 ⟨Nat.le_of_ble_eq_true rfl, Nat.le_of_ble_eq_true rfl⟩ (fun r hr => ?_)
    subst hr
    refine asi (z := nI (rowM σ pl lo hi2)) rfl ?_
    exact W.iret (v := nI (rowM σ pl lo hi2)) hx hb hrt (fun t9 ht9 hW9 => ⟨_, rfl, by rw [n_3]; rfl, ht9⟩) (fun _ h9 => nomatch h9) dX8_answerIf_20 hlk

abbrev rm_X8_requireRow : Room := { frames := 6, cells := 1, slots := 6, locals := 90 }
theorem k_X8_requireRow : Cal yX8_requireRow wsX8_requireRow rm_X8_requireRow cX8_requireRow 2 none 1 1 6 := ⟨⟨_, rfl⟩, rfl, rfl, by decide +kernel⟩
set_option maxHeartbeats 4000000 in
set_option maxRecDepth 100000 in
theorem m_X8_requireRow (l : Launch) (Γ : Gm) (sz : Nat) (hfl : l.stackTraces = false) (a : Nat → Nat) (b : Nat → Nat → Nat) (rf : Nat → Option Nat) (f : Nat → Nat → Int32) (z : Nat → Int32) (F : Nat → Nat → Nat → Int32) (Z : Nat → Nat → Int32) (σ : Nat → Nat) (hR : Rep σ f z) (hI : Inv σ) (ix : Int32) : MEv l yX8_requireRow wsX8_requireRow rm_X8_requireRow Γ sz (wXo Γ a b rf f z F Z) [.ref (a 34), .int ix] (inI ix (nI 0) (nI (σ 0) - nI 1) = true) (fun E => E = xIO ∧ inI ix (nI 0) (nI (σ 0) - nI 1) = false) 1 6 := by
  refine mE (cc := cX8_requireRow) (maxL := 2) (ret := none) (own := RX8) (by decide) rfl rfl (Nat.le_of_ble_eq_true rfl) ?_
  intro p e s m args below meth c S hrt hlk htab hsz hE hK hP ls hl
  subst hsz
  have hA : ∀ q, s.heap.size ≤ q → (fun q => s.heap.size ≤ q) q := fun _ h => h
  have hS : va_S (fun q => s.heap.size ≤ q) s.heap s.heap [] := va_S.rf
  have hk2 : ∀ q : Nat, q < s.heap.size → s.heap[q]? = s.heap[q]? := fun _ _ => rfl
  obtain ⟨hx, hb, hml, hown, hts⟩ := id S
  have hl : lv_has ls 2 [(0, .ref (a 34)), (1, .int ix)] := hl
  have hP : gP Γ (wXo Γ a b rf f z F Z) s.heap := hP
  refine lv_iload_n hx hb dX8_requireRow_0 rfl (lv_at hl 1 rfl) ?_
  refine lv_iconst (v := nI 0) hx hb dX8_requireRow_1 (by decide) ?_
  refine lv_aload_n hx hb dX8_requireRow_2 rfl (lv_at hl 0 rfl) ?_
  refine va_get (D := Γ.1) (ci := 8) (v := .ref (a 0)) (C := RX8) (T := TX8) (N := 3) hx hb hts (by decide +kernel) hown hK hP 0 rfl rfl 0 (by decide) (hts (.fieldLink RX8 10 "RowVeils" "state" "LRowVeils$State;") (by decide +kernel)) (fun _ h9 => h9) rfl dX8_requireRow_3 ?_
  refine va_get (D := Γ.1) (ci := 6) (v := .ref (a 1)) (C := RX6) (T := TX6) (N := 6) hx hb hts (by decide +kernel) hown hK hP 1 rfl rfl 0 (by decide) (hts (.fieldLink RX8 56 "RowVeils$State" "rows" "LRowVeils$Rows;") (by decide +kernel)) (fun _ h9 => h9) rfl dX8_requireRow_6 ?_
  refine va_get (D := Γ.1) (ci := 5) (v := .int (z 0)) (C := RX5) (T := TX5) (N := 5) hx hb hts (by decide +kernel) hown hK hP 2 rfl rfl 4 (by decide) (hts (.fieldLink RX8 75 "RowVeils$Rows" "size" "I") (by decide +kernel)) (fun _ h9 => h9) rfl dX8_requireRow_9 ?_
  refine asi (z := nI (σ 0)) (hR.n) ?_
  refine lv_iconst (v := nI 1) hx hb dX8_requireRow_12 (by decide) ?_
  refine lv_isub hx hb dX8_requireRow_13 ?_
  refine cSi (As := [.int ix, .int (nI 0), .int ((nI (σ 0)) - (nI 1))]) (rest := []) (m_X8_isWithin l ix (nI 0) ((nI (σ 0)) - (nI 1))) S k_X8_isWithin gX8_requireRow_X8_isWithin ⟨Nat.le_of_ble_eq_true rfl, Nat.le_of_ble_eq_true rfl⟩ rfl hl.1 (Nat.le_of_ble_eq_true rfl) rfl dX8_requireRow_14 ⟨Nat.le_of_ble_eq_true rfl, Nat.le_of_ble_eq_true rfl⟩ (fun r hr => ?_)
  subst hr
  refine lv_if_ne (tgt := 31) hx hb dX8_requireRow_17 (by decide) (fun c_17 => ?_) (fun c_17 => ?_)
  · have n_17 := bI_nz.mp c_17
    refine W.widen (k := 1) (n := 6) (Nat.le_of_ble_eq_true rfl) (Nat.le_of_ble_eq_true rfl) ?_
    exact vx_ret (W.vret hx hb hrt (fun t9 ht9 hW9 => ⟨⟨(), rfl, n_17, trivial⟩, eF hS.1 hk2 ht9⟩) hS.2.2 dX8_requireRow_31 hlk)
  · have n_17 := bI_z.mp c_17
    exact xThrW (ik := 37) (is := 319) (ic := 41) (text := "no such row") (cls := xIO) hfl S hE (Or.inl rfl) (hts (.classLink RX8 37 xIO) (by decide +kernel)) (hts (.initialized xIO) (by decide +kernel)) 16 rfl (by decide +kernel) (by decide +kernel) (by decide +kernel) (by decide +kernel) hS hl.1 dX8_requireRow_20 dX8_requireRow_23 dX8_requireRow_24 dX8_requireRow_27 dX8_requireRow_30 htab (Nat.le_of_ble_eq_true rfl) (Nat.le_of_ble_eq_true rfl) (Nat.le_of_ble_eq_true rfl) (Nat.le_of_ble_eq_true rfl) hlk (⟨rfl, n_17⟩) hk2 rfl hS.2.2 (Nat.le_of_ble_eq_true rfl) (Nat.le_of_ble_eq_true rfl)

abbrev rm_X8_requireAsker : Room := { frames := 6, cells := 1, slots := 6, locals := 90 }
theorem k_X8_requireAsker : Cal yX8_requireAsker wsX8_requireAsker rm_X8_requireAsker cX8_requireAsker 1 none 1 1 6 := ⟨⟨_, rfl⟩, rfl, rfl, by decide +kernel⟩
set_option maxHeartbeats 4000000 in
set_option maxRecDepth 100000 in
theorem m_X8_requireAsker (l : Launch) (Γ : Gm) (sz : Nat) (hfl : l.stackTraces = false) (ip : Int32) : MEv l yX8_requireAsker wsX8_requireAsker rm_X8_requireAsker Γ sz [] [.int ip] (inI ip (nI 0) (nI 4) = true) (fun E => E = xIO ∧ inI ip (nI 0) (nI 4) = false) 1 6 := by
  refine mE (cc := cX8_requireAsker) (maxL := 1) (ret := none) (own := RX8) (by decide) rfl rfl (Nat.le_of_ble_eq_true rfl) ?_
  intro p e s m args below meth c S hrt hlk htab hsz hE hK hP ls hl
  subst hsz
  have hA : ∀ q, s.heap.size ≤ q → (fun q => s.heap.size ≤ q) q := fun _ h => h
  have hS : va_S (fun q => s.heap.size ≤ q) s.heap s.heap [] := va_S.rf
  have hk2 : ∀ q : Nat, q < s.heap.size → s.heap[q]? = s.heap[q]? := fun _ _ => rfl
  obtain ⟨hx, hb, hml, hown, hts⟩ := id S
  have hl : lv_has ls 1 [(0, .int ip)] := hl
  have hP : gP Γ [] s.heap := hP
  refine lv_iload_n hx hb dX8_requireAsker_0 rfl (lv_at hl 0 rfl) ?_
  refine cSi (As := [.int ip]) (rest := []) (m_X8_isPerson l ip) S k_X8_isPerson gX8_requireAsker_X8_isPerson ⟨Nat.le_of_ble_eq_true rfl, Nat.le_of_ble_eq_true rfl⟩ rfl hl.1 (Nat.le_of_ble_eq_true rfl) rfl dX8_requireAsker_1 ⟨Nat.le_of_ble_eq_true rfl, Nat.le_of_ble_eq_true rfl⟩ (fun r hr => ?_)
  subst hr
  refine lv_if_ne (tgt := 17) hx hb dX8_requireAsker_4 (by decide) (fun c_4 => ?_) (fun c_4 => ?_)
  · have n_4 := bI_nz.mp c_4
    refine W.widen (k := 1) (n := 6) (Nat.le_of_ble_eq_true rfl) (Nat.le_of_ble_eq_true rfl) ?_
    exact vx_ret (W.vret hx hb hrt (fun t9 ht9 hW9 => ⟨⟨(), rfl, n_4, trivial⟩, eF hS.1 hk2 ht9⟩) hS.2.2 dX8_requireAsker_17 hlk)
  · have n_4 := bI_z.mp c_4
    exact xThr (ik := 37) (is := 129) (ic := 41) (text := "no such person") (cls := xIO) hfl S hE (Or.inl rfl) (hts (.classLink RX8 37 xIO) (by decide +kernel)) (hts (.initialized xIO) (by decide +kernel)) 6 rfl (by decide +kernel) (by decide +kernel) (by decide +kernel) (by decide +kernel) hS hl.1 dX8_requireAsker_7 dX8_requireAsker_10 dX8_requireAsker_11 dX8_requireAsker_13 dX8_requireAsker_16 htab (Nat.le_of_ble_eq_true rfl) (Nat.le_of_ble_eq_true rfl) (Nat.le_of_ble_eq_true rfl) (Nat.le_of_ble_eq_true rfl) hlk (⟨rfl, n_4⟩) hk2 rfl hS.2.2 (Nat.le_of_ble_eq_true rfl) (Nat.le_of_ble_eq_true rfl)

abbrev rm_X8_requireRule : Room := { frames := 6, cells := 1, slots := 6, locals := 90 }
theorem k_X8_requireRule : Cal yX8_requireRule wsX8_requireRule rm_X8_requireRule cX8_requireRule 1 none 1 1 6 := ⟨⟨_, rfl⟩, rfl, rfl, by decide +kernel⟩
set_option maxHeartbeats 4000000 in
set_option maxRecDepth 100000 in
theorem m_X8_requireRule (l : Launch) (Γ : Gm) (sz : Nat) (hfl : l.stackTraces = false) (ip : Int32) : MEv l yX8_requireRule wsX8_requireRule rm_X8_requireRule Γ sz [] [.int ip] (inI ip (nI 0) (nI 3) = true) (fun E => E = xIO ∧ inI ip (nI 0) (nI 3) = false) 1 6 := by
  refine mE (cc := cX8_requireRule) (maxL := 1) (ret := none) (own := RX8) (by decide) rfl rfl (Nat.le_of_ble_eq_true rfl) ?_
  intro p e s m args below meth c S hrt hlk htab hsz hE hK hP ls hl
  subst hsz
  have hA : ∀ q, s.heap.size ≤ q → (fun q => s.heap.size ≤ q) q := fun _ h => h
  have hS : va_S (fun q => s.heap.size ≤ q) s.heap s.heap [] := va_S.rf
  have hk2 : ∀ q : Nat, q < s.heap.size → s.heap[q]? = s.heap[q]? := fun _ _ => rfl
  obtain ⟨hx, hb, hml, hown, hts⟩ := id S
  have hl : lv_has ls 1 [(0, .int ip)] := hl
  have hP : gP Γ [] s.heap := hP
  refine lv_iload_n hx hb dX8_requireRule_0 rfl (lv_at hl 0 rfl) ?_
  refine lv_iconst (v := nI 0) hx hb dX8_requireRule_1 (by decide) ?_
  refine lv_iconst (v := nI 3) hx hb dX8_requireRule_2 (by decide) ?_
  refine cSi (As := [.int ip, .int (nI 0), .int (nI 3)]) (rest := []) (m_X8_isWithin l ip (nI 0) (nI 3)) S k_X8_isWithin gX8_requireRule_X8_isWithin ⟨Nat.le_of_ble_eq_true rfl, Nat.le_of_ble_eq_true rfl⟩ rfl hl.1 (Nat.le_of_ble_eq_true rfl) rfl dX8_requireRule_3 ⟨Nat.le_of_ble_eq_true rfl, Nat.le_of_ble_eq_true rfl⟩ (fun r hr => ?_)
  subst hr
  refine lv_if_ne (tgt := 20) hx hb dX8_requireRule_6 (by decide) (fun c_6 => ?_) (fun c_6 => ?_)
  · have n_6 := bI_nz.mp c_6
    refine W.widen (k := 1) (n := 6) (Nat.le_of_ble_eq_true rfl) (Nat.le_of_ble_eq_true rfl) ?_
    exact vx_ret (W.vret hx hb hrt (fun t9 ht9 hW9 => ⟨⟨(), rfl, n_6, trivial⟩, eF hS.1 hk2 ht9⟩) hS.2.2 dX8_requireRule_20 hlk)
  · have n_6 := bI_z.mp c_6
    exact xThrW (ik := 37) (is := 321) (ic := 41) (text := "no such rule") (cls := xIO) hfl S hE (Or.inl rfl) (hts (.classLink RX8 37 xIO) (by decide +kernel)) (hts (.initialized xIO) (by decide +kernel)) 17 rfl (by decide +kernel) (by decide +kernel) (by decide +kernel) (by decide +kernel) hS hl.1 dX8_requireRule_9 dX8_requireRule_12 dX8_requireRule_13 dX8_requireRule_16 dX8_requireRule_19 htab (Nat.le_of_ble_eq_true rfl) (Nat.le_of_ble_eq_true rfl) (Nat.le_of_ble_eq_true rfl) (Nat.le_of_ble_eq_true rfl) hlk (⟨rfl, n_6⟩) hk2 rfl hS.2.2 (Nat.le_of_ble_eq_true rfl) (Nat.le_of_ble_eq_true rfl)

abbrev rm_X8_requireQuestion : Room := { frames := 6, cells := 1, slots := 6, locals := 90 }
theorem k_X8_requireQuestion : Cal yX8_requireQuestion wsX8_requireQuestion rm_X8_requireQuestion cX8_requireQuestion 4 none 4 1 6 := ⟨⟨_, rfl⟩, rfl, rfl, by decide +kernel⟩
set_option maxHeartbeats 4000000 in
set_option maxRecDepth 100000 in
theorem m_X8_requireQuestion (l : Launch) (Γ : Gm) (sz : Nat) (hfl : l.stackTraces = false) (ip ipl il ih : Int32) : MEv l yX8_requireQuestion wsX8_requireQuestion rm_X8_requireQuestion Γ sz [] [.int ip, .int ipl, .int il, .int ih] (qCode ip ipl il ih = 0) (fun E => exc [xIO, xIA] E (qCode ip ipl il ih)) 1 6 := by
  refine mE (cc := cX8_requireQuestion) (maxL := 4) (ret := none) (own := RX8) (by decide) rfl rfl (Nat.le_of_ble_eq_true rfl) ?_
  intro p e s m args below meth c S hrt hlk htab hsz hE hK hP ls hl
  subst hsz
  have hA : ∀ q, s.heap.size ≤ q → (fun q => s.heap.size ≤ q) q := fun _ h => h
  have hS : va_S (fun q => s.heap.size ≤ q) s.heap s.heap [] := va_S.rf
  have hk2 : ∀ q : Nat, q < s.heap.size → s.heap[q]? = s.heap[q]? := fun _ _ => rfl
  obtain ⟨hx, hb, hml, hown, hts⟩ := id S
  have hl : lv_has ls 4 [(0, .int ip), (1, .int ipl), (2, .int il), (3, .int ih)] := hl
  have hP : gP Γ [] s.heap := hP
  refine lv_iload_n hx hb dX8_requireQuestion_0 rfl (lv_at hl 0 rfl) ?_
  refine cSi (As := [.int ip]) (rest := []) (m_X8_isPerson l ip) S k_X8_isPerson gX8_requireQuestion_X8_isPerson ⟨Nat.le_of_ble_eq_true rfl, Nat.le_of_ble_eq_true rfl⟩ rfl hl.1 (Nat.le_of_ble_eq_true rfl) rfl dX8_requireQuestion_1 ⟨Nat.le_of_ble_eq_true rfl, Nat.le_of_ble_eq_true rfl⟩ (fun r hr => ?_)
  subst hr
  refine lv_if_eq (tgt := 14) hx hb dX8_requireQuestion_4 (by decide) (fun c_4 => ?_) (fun c_4 => ?_)
  · have n_4 := bI_z.mp c_4
    exact xThrW (ik := 37) (is := 259) (ic := 41) (text := "no such asker or place") (cls := xIO) hfl S hE (Or.inl rfl) (hts (.classLink RX8 37 xIO) (by decide +kernel)) (hts (.initialized xIO) (by decide +kernel)) 15 rfl (by decide +kernel) (by decide +kernel) (by decide +kernel) (by decide +kernel) hS hl.1 dX8_requireQuestion_14 dX8_requireQuestion_17 dX8_requireQuestion_18 dX8_requireQuestion_21 dX8_requireQuestion_24 htab (Nat.le_of_ble_eq_true rfl) (Nat.le_of_ble_eq_true rfl) (Nat.le_of_ble_eq_true rfl) (Nat.le_of_ble_eq_true rfl) hlk (⟨0, by unfold qCode; first | rw [n_4]; rfl | rw [n_4, n_11]; rfl, rfl⟩) hk2 rfl hS.2.2 (Nat.le_of_ble_eq_true rfl) (Nat.le_of_ble_eq_true rfl)
  · have n_4 := bI_nz.mp c_4
    refine lv_iload_n hx hb dX8_requireQuestion_7 rfl (lv_at hl 1 rfl) ?_
    refine cSi (As := [.int ipl]) (rest := []) (m_X8_isPlaceOrAll l ipl) S k_X8_isPlaceOrAll gX8_requireQuestion_X8_isPlaceOrAll ⟨Nat.le_of_ble_eq_true rfl, Nat.le_of_ble_eq_true rfl⟩ rfl hl.1 (Nat.le_of_ble_eq_true rfl) rfl dX8_requireQuestion_8 ⟨Nat.le_of_ble_eq_true rfl, Nat.le_of_ble_eq_true rfl⟩ (fun r hr => ?_)
    subst hr
    refine lv_if_ne (tgt := 25) hx hb dX8_requireQuestion_11 (by decide) (fun c_11 => ?_) (fun c_11 => ?_)
    · have n_11 := bI_nz.mp c_11
      refine lv_iload_n hx hb dX8_requireQuestion_25 rfl (lv_at hl 2 rfl) ?_
      refine cSi (As := [.int il]) (rest := []) (m_X8_isValue l il) S k_X8_isValue gX8_requireQuestion_X8_isValue ⟨Nat.le_of_ble_eq_true rfl, Nat.le_of_ble_eq_true rfl⟩ rfl hl.1 (Nat.le_of_ble_eq_true rfl) rfl dX8_requireQuestion_26 ⟨Nat.le_of_ble_eq_true rfl, Nat.le_of_ble_eq_true rfl⟩ (fun r hr => ?_)
      subst hr
      refine lv_if_eq (tgt := 42) hx hb dX8_requireQuestion_29 (by decide) (fun c_29 => ?_) (fun c_29 => ?_)
      · have n_29 := bI_z.mp c_29
        exact xThrW (ik := 51) (is := 323) (ic := 55) (text := "least or greatest is out of range") (cls := xIA) hfl S hE (Or.inr (Or.inl rfl)) (hts (.classLink RX8 51 xIA) (by decide +kernel)) (hts (.initialized xIA) (by decide +kernel)) 18 rfl (by decide +kernel) (by decide +kernel) (by decide +kernel) (by decide +kernel) hS hl.1 dX8_requireQuestion_42 dX8_requireQuestion_45 dX8_requireQuestion_46 dX8_requireQuestion_49 dX8_requireQuestion_52 htab (Nat.le_of_ble_eq_true rfl) (Nat.le_of_ble_eq_true rfl) (Nat.le_of_ble_eq_true rfl) (Nat.le_of_ble_eq_true rfl) hlk (⟨1, by unfold qCode; first | rw [n_4, n_11, n_29]; rfl | rw [n_4, n_11, n_29, n_39]; rfl, rfl⟩) hk2 rfl hS.2.2 (Nat.le_of_ble_eq_true rfl) (Nat.le_of_ble_eq_true rfl)
      · have n_29 := bI_nz.mp c_29
        refine lv_iload_n hx hb dX8_requireQuestion_32 rfl (lv_at hl 3 rfl) ?_
        refine lv_iload_n hx hb dX8_requireQuestion_33 rfl (lv_at hl 2 rfl) ?_
        refine lv_bipush (v := nI 99) hx hb dX8_requireQuestion_34 (by decide) ?_
        refine cSi (As := [.int ih, .int il, .int (nI 99)]) (rest := []) (m_X8_isWithin l ih il (nI 99)) S k_X8_isWithin gX8_requireQuestion_X8_isWithin ⟨Nat.le_of_ble_eq_true rfl, Nat.le_of_ble_eq_true rfl⟩ rfl hl.1 (Nat.le_of_ble_eq_true rfl) rfl dX8_requireQuestion_36 ⟨Nat.le_of_ble_eq_true rfl, Nat.le_of_ble_eq_true rfl⟩ (fun r hr => ?_)
        subst hr
        refine lv_if_ne (tgt := 53) hx hb dX8_requireQuestion_39 (by decide) (fun c_39 => ?_) (fun c_39 => ?_)
        · have n_39 := bI_nz.mp c_39
          refine W.widen (k := 1) (n := 6) (Nat.le_of_ble_eq_true rfl) (Nat.le_of_ble_eq_true rfl) ?_
          exact vx_ret (W.vret hx hb hrt (fun t9 ht9 hW9 => ⟨⟨(), rfl, by unfold qCode; rw [n_4, n_11, n_29, n_39]; rfl, trivial⟩, eF hS.1 hk2 ht9⟩) hS.2.2 dX8_requireQuestion_53 hlk)
        · have n_39 := bI_z.mp c_39
          exact xThrW (ik := 51) (is := 323) (ic := 55) (text := "least or greatest is out of range") (cls := xIA) hfl S hE (Or.inr (Or.inl rfl)) (hts (.classLink RX8 51 xIA) (by decide +kernel)) (hts (.initialized xIA) (by decide +kernel)) 18 rfl (by decide +kernel) (by decide +kernel) (by decide +kernel) (by decide +kernel) hS hl.1 dX8_requireQuestion_42 dX8_requireQuestion_45 dX8_requireQuestion_46 dX8_requireQuestion_49 dX8_requireQuestion_52 htab (Nat.le_of_ble_eq_true rfl) (Nat.le_of_ble_eq_true rfl) (Nat.le_of_ble_eq_true rfl) (Nat.le_of_ble_eq_true rfl) hlk (⟨1, by unfold qCode; first | rw [n_4, n_11, n_29]; rfl | rw [n_4, n_11, n_29, n_39]; rfl, rfl⟩) hk2 rfl hS.2.2 (Nat.le_of_ble_eq_true rfl) (Nat.le_of_ble_eq_true rfl)
    · have n_11 := bI_z.mp c_11
      exact xThrW (ik := 37) (is := 259) (ic := 41) (text := "no such asker or place") (cls := xIO) hfl S hE (Or.inl rfl) (hts (.classLink RX8 37 xIO) (by decide +kernel)) (hts (.initialized xIO) (by decide +kernel)) 15 rfl (by decide +kernel) (by decide +kernel) (by decide +kernel) (by decide +kernel) hS hl.1 dX8_requireQuestion_14 dX8_requireQuestion_17 dX8_requireQuestion_18 dX8_requireQuestion_21 dX8_requireQuestion_24 htab (Nat.le_of_ble_eq_true rfl) (Nat.le_of_ble_eq_true rfl) (Nat.le_of_ble_eq_true rfl) (Nat.le_of_ble_eq_true rfl) hlk (⟨0, by unfold qCode; first | rw [n_4]; rfl | rw [n_4, n_11]; rfl, rfl⟩) hk2 rfl hS.2.2 (Nat.le_of_ble_eq_true rfl) (Nat.le_of_ble_eq_true rfl)

abbrev rm_X8_rowOf : Room := { frames := 7, cells := 2, slots := 12, locals := 111 }
theorem k_X8_rowOf : Cal yX8_rowOf wsX8_rowOf rm_X8_rowOf cX8_rowOf 3 (some .int) 2 2 12 := ⟨⟨_, rfl⟩, rfl, rfl, by decide +kernel⟩
set_option maxHeartbeats 4000000 in
set_option maxRecDepth 100000 in
theorem m_X8_rowOf (l : Launch) (Γ : Gm) (sz : Nat) (hfl : l.stackTraces = false) (a : Nat → Nat) (b : Nat → Nat → Nat) (rf : Nat → Option Nat) (f : Nat → Nat → Int32) (z : Nat → Int32) (F : Nat → Nat → Nat → Int32) (Z : Nat → Nat → Int32) (σ : Nat → Nat) (hR : Rep σ f z) (hI : Inv σ) (ix iw : Int32) : MEi l yX8_rowOf wsX8_rowOf rm_X8_rowOf Γ sz (wXo Γ a b rf f z F Z) [.ref (a 34), .int ix, .int iw] (fun r => rwC σ ix iw = 0 ∧ r = nI (rowN σ ix.toNatClampNeg iw.toNatClampNeg)) (fun E => exc [xIO, xIA] E (rwC σ ix iw)) 2 12 := by
  refine mE (cc := cX8_rowOf) (maxL := 3) (ret := (some .int)) (own := RX8) (by decide) rfl rfl (Nat.le_of_ble_eq_true rfl) ?_
  intro p e s m args below meth c S hrt hlk htab hsz hE hK hP ls hl
  subst hsz
  have hA : ∀ q, s.heap.size ≤ q → (fun q => s.heap.size ≤ q) q := fun _ h => h
  have hS : va_S (fun q => s.heap.size ≤ q) s.heap s.heap [] := va_S.rf
  have hk2 : ∀ q : Nat, q < s.heap.size → s.heap[q]? = s.heap[q]? := fun _ _ => rfl
  obtain ⟨hx, hb, hml, hown, hts⟩ := id S
  have hl : lv_has ls 3 [(0, .ref (a 34)), (1, .int ix), (2, .int iw)] := hl
  have hP : gP Γ (wXo Γ a b rf f z F Z) s.heap := hP
  refine lv_aload_n hx hb dX8_rowOf_0 rfl (lv_at hl 0 rfl) ?_
  refine lv_iload_n hx hb dX8_rowOf_1 rfl (lv_at hl 1 rfl) ?_
  refine xCv (As := [.int ix]) (rest := []) (m_X8_requireRow l Γ _ hfl a b rf f z F Z σ hR hI ix) hE S k_X8_requireRow gX8_rowOf_X8_requireRow rfl ⟨Nat.le_of_ble_eq_true rfl, Nat.le_of_ble_eq_true rfl⟩ hK hP hS hA hk2 rfl 0 (ci := 8) rfl rfl rfl rfl hl.1 (Nat.le_of_ble_eq_true rfl) rfl dX8_rowOf_2 ⟨Nat.le_of_ble_eq_true rfl, Nat.le_of_ble_eq_true rfl⟩ (fun E ce q9 H locs hp hS hk2 h1 h2 h3 => xOut htab hlk h1 h2 h3 (⟨0, by unfold rwC; rw [hp.2]; rfl, by rw [hp.1]; rfl⟩) hS.1 hk2 rfl hS.2.2 (Nat.le_of_ble_eq_true rfl) (Nat.le_of_ble_eq_true rfl)) (fun H locs p_2 hP hS hk2 => ?_)
  obtain ⟨q, hq0, rfl⟩ := in_row hI.n p_2
  refine lv_iload_n hx hb dX8_rowOf_5 rfl (lv_at hl 2 rfl) ?_
  refine lv_iconst (v := nI 0) hx hb dX8_rowOf_6 (by decide) ?_
  refine lv_iconst (v := nI 4) hx hb dX8_rowOf_7 (by decide) ?_
  refine cSi (As := [.int iw, .int (nI 0), .int (nI 4)]) (rest := []) (m_X8_isWithin l iw (nI 0) (nI 4)) S k_X8_isWithin gX8_rowOf_X8_isWithin ⟨Nat.le_of_ble_eq_true rfl, Nat.le_of_ble_eq_true rfl⟩ rfl hl.1 (Nat.le_of_ble_eq_true rfl) rfl dX8_rowOf_8 ⟨Nat.le_of_ble_eq_true rfl, Nat.le_of_ble_eq_true rfl⟩ (fun r hr => ?_)
  subst hr
  refine lv_if_ne (tgt := 24) hx hb dX8_rowOf_11 (by decide) (fun c_11 => ?_) (fun c_11 => ?_)
  · have n_11 := bI_nz.mp c_11
    obtain ⟨w, hw, rfl⟩ := in_lt (by decide) n_11
    have hn := hI.n
    refine lv_aload_n hx hb dX8_rowOf_24 rfl (lv_at hl 0 rfl) ?_
    refine va_get (D := Γ.1) (ci := 8) (v := .ref (a 0)) (C := RX8) (T := TX8) (N := 3) hx hb hts (by decide +kernel) hown hK hP 0 rfl rfl 0 (by decide) (hts (.fieldLink RX8 10 "RowVeils" "state" "LRowVeils$State;") (by decide +kernel)) (fun _ h9 => h9) rfl dX8_rowOf_25 ?_
    refine lv_iload_n hx hb dX8_rowOf_28 rfl (lv_at hl 1 rfl) ?_
    refine lv_iload_n hx hb dX8_rowOf_29 rfl (lv_at hl 2 rfl) ?_
    refine cRi (As := [.int (nI q), .int (nI w)]) (rest := []) (m_X6_rowNumber l Γ a f z σ hR hI q w hq0 (by omega)) S k_X6_rowNumber gX8_rowOf_X6_rowNumber rfl ⟨Nat.le_of_ble_eq_true rfl, Nat.le_of_ble_eq_true rfl⟩ hK hP [1, 2, 3, 4, 5, 6, 7, 8, 9, 10, 11, 12, 13, 14, 15, 16, 17, 18, 19, 20, 21, 22, 23, 24, 25, 26, 27, 28, 29] rfl 0 (ci := 6) rfl rfl rfl rfl hl.1 (Nat.le_of_ble_eq_true rfl) rfl dX8_rowOf_30 ⟨Nat.le_of_ble_eq_true rfl, Nat.le_of_ble_eq_true rfl⟩ (fun r hr => ?_)
    subst hr
    refine W.widen (k := 2) (n := 12) (Nat.le_of_ble_eq_true rfl) (Nat.le_of_ble_eq_true rfl) ?_
    exact vx_ret (W.iret (v := nI (rowN σ q w)) hx hb hrt (fun t9 ht9 hW9 => ⟨⟨_, (), rfl, ⟨by unfold rwC; rw [p_2, n_11]; rfl, by rw [nI_clamp (by omega), nI_clamp (by omega)]⟩, trivial⟩, eF hS.1 hk2 ht9⟩) hS.2.2 dX8_rowOf_33 hlk)
  · have n_11 := bI_z.mp c_11
    exact xThr (ik := 51) (is := 221) (ic := 55) (text := "what is not 0 to 4") (cls := xIA) hfl S hE (Or.inr (Or.inl rfl)) (hts (.classLink RX8 51 xIA) (by decide +kernel)) (hts (.initialized xIA) (by decide +kernel)) 10 rfl (by decide +kernel) (by decide +kernel) (by decide +kernel) (by decide +kernel) hS hl.1 dX8_rowOf_14 dX8_rowOf_17 dX8_rowOf_18 dX8_rowOf_20 dX8_rowOf_23 htab (Nat.le_of_ble_eq_true rfl) (Nat.le_of_ble_eq_true rfl) (Nat.le_of_ble_eq_true rfl) (Nat.le_of_ble_eq_true rfl) hlk (⟨1, by unfold rwC; rw [p_2, n_11]; rfl, rfl⟩) hk2 rfl hS.2.2 (Nat.le_of_ble_eq_true rfl) (Nat.le_of_ble_eq_true rfl)

abbrev rm_X8_personOf : Room := { frames := 7, cells := 2, slots := 12, locals := 117 }
theorem k_X8_personOf : Cal yX8_personOf wsX8_personOf rm_X8_personOf cX8_personOf 3 (some .int) 2 2 12 := ⟨⟨_, rfl⟩, rfl, rfl, by decide +kernel⟩
set_option maxHeartbeats 4000000 in
set_option maxRecDepth 100000 in
theorem m_X8_personOf (l : Launch) (Γ : Gm) (sz : Nat) (hfl : l.stackTraces = false) (a : Nat → Nat) (b : Nat → Nat → Nat) (rf : Nat → Option Nat) (f : Nat → Nat → Int32) (z : Nat → Int32) (F : Nat → Nat → Nat → Int32) (Z : Nat → Nat → Int32) (σ : Nat → Nat) (hR : Rep σ f z) (hI : Inv σ) (ip iw : Int32) : MEi l yX8_personOf wsX8_personOf rm_X8_personOf Γ sz (wXo Γ a b rf f z F Z) [.ref (a 34), .int ip, .int iw] (fun r => peC ip iw = 0 ∧ r = perN σ ip.toNatClampNeg iw.toNatClampNeg) (fun E => exc [xIO, xIA] E (peC ip iw)) 2 12 := by
  refine mE (cc := cX8_personOf) (maxL := 3) (ret := (some .int)) (own := RX8) (by decide) rfl rfl (Nat.le_of_ble_eq_true rfl) ?_
  intro p e s m args below meth c S hrt hlk htab hsz hE hK hP ls hl
  subst hsz
  have hA : ∀ q, s.heap.size ≤ q → (fun q => s.heap.size ≤ q) q := fun _ h => h
  have hS : va_S (fun q => s.heap.size ≤ q) s.heap s.heap [] := va_S.rf
  have hk2 : ∀ q : Nat, q < s.heap.size → s.heap[q]? = s.heap[q]? := fun _ _ => rfl
  obtain ⟨hx, hb, hml, hown, hts⟩ := id S
  have hl : lv_has ls 3 [(0, .ref (a 34)), (1, .int ip), (2, .int iw)] := hl
  have hP : gP Γ (wXo Γ a b rf f z F Z) s.heap := hP
  refine lv_iload_n hx hb dX8_personOf_0 rfl (lv_at hl 1 rfl) ?_
  refine xCs (As := [.int ip]) (rest := []) (m_X8_requireAsker l Γ _ hfl ip) hE S k_X8_requireAsker gX8_personOf_X8_requireAsker ⟨Nat.le_of_ble_eq_true rfl, Nat.le_of_ble_eq_true rfl⟩ hK hP hS hA hk2 rfl hl.1 (Nat.le_of_ble_eq_true rfl) rfl dX8_personOf_1 ⟨Nat.le_of_ble_eq_true rfl, Nat.le_of_ble_eq_true rfl⟩ (fun E ce q9 H locs hp hS hk2 h1 h2 h3 => xOut htab hlk h1 h2 h3 (⟨0, by unfold peC; rw [hp.2]; rfl, by rw [hp.1]; rfl⟩) hS.1 hk2 rfl hS.2.2 (Nat.le_of_ble_eq_true rfl) (Nat.le_of_ble_eq_true rfl)) (fun H locs p_1 hP hS hk2 => ?_)
  obtain ⟨p0, hp, rfl⟩ := in_lt (by decide) p_1
  refine lv_iload_n hx hb dX8_personOf_4 rfl (lv_at hl 2 rfl) ?_
  refine lv_iconst (v := nI 0) hx hb dX8_personOf_5 (by decide) ?_
  refine lv_bipush (v := nI 7) hx hb dX8_personOf_6 (by decide) ?_
  refine cSi (As := [.int iw, .int (nI 0), .int (nI 7)]) (rest := []) (m_X8_isWithin l iw (nI 0) (nI 7)) S k_X8_isWithin gX8_personOf_X8_isWithin ⟨Nat.le_of_ble_eq_true rfl, Nat.le_of_ble_eq_true rfl⟩ rfl hl.1 (Nat.le_of_ble_eq_true rfl) rfl dX8_personOf_8 ⟨Nat.le_of_ble_eq_true rfl, Nat.le_of_ble_eq_true rfl⟩ (fun r hr => ?_)
  subst hr
  refine lv_if_ne (tgt := 24) hx hb dX8_personOf_11 (by decide) (fun c_11 => ?_) (fun c_11 => ?_)
  · have n_11 := bI_nz.mp c_11
    obtain ⟨w, hw, rfl⟩ := in_lt (by decide) n_11
    refine lv_aload_n hx hb dX8_personOf_24 rfl (lv_at hl 0 rfl) ?_
    refine va_get (D := Γ.1) (ci := 8) (v := .ref (a 0)) (C := RX8) (T := TX8) (N := 3) hx hb hts (by decide +kernel) hown hK hP 0 rfl rfl 0 (by decide) (hts (.fieldLink RX8 10 "RowVeils" "state" "LRowVeils$State;") (by decide +kernel)) (fun _ h9 => h9) rfl dX8_personOf_25 ?_
    refine lv_iload_n hx hb dX8_personOf_28 rfl (lv_at hl 1 rfl) ?_
    refine lv_iload_n hx hb dX8_personOf_29 rfl (lv_at hl 2 rfl) ?_
    refine cRi (As := [.int (nI p0), .int (nI w)]) (rest := []) (m_X6_personNumber l Γ a f z σ hR hI p0 w (by omega) (by omega)) S k_X6_personNumber gX8_personOf_X6_personNumber rfl ⟨Nat.le_of_ble_eq_true rfl, Nat.le_of_ble_eq_true rfl⟩ hK hP [1, 2, 3, 4, 5, 6, 7, 8, 9, 10, 11, 12, 13, 14, 15, 16, 17, 18, 19, 20, 21, 22, 23, 24, 25, 26, 27, 28, 29] rfl 0 (ci := 6) rfl rfl rfl rfl hl.1 (Nat.le_of_ble_eq_true rfl) rfl dX8_personOf_30 ⟨Nat.le_of_ble_eq_true rfl, Nat.le_of_ble_eq_true rfl⟩ (fun r hr => ?_)
    subst hr
    refine W.widen (k := 2) (n := 12) (Nat.le_of_ble_eq_true rfl) (Nat.le_of_ble_eq_true rfl) ?_
    exact vx_ret (W.iret (v := perN σ p0 w) hx hb hrt (fun t9 ht9 hW9 => ⟨⟨_, (), rfl, ⟨by unfold peC; rw [p_1, n_11]; rfl, by rw [nI_clamp (by omega), nI_clamp (by omega)]⟩, trivial⟩, eF hS.1 hk2 ht9⟩) hS.2.2 dX8_personOf_33 hlk)
  · have n_11 := bI_z.mp c_11
    exact xThr (ik := 51) (is := 226) (ic := 55) (text := "what is not 0 to 7") (cls := xIA) hfl S hE (Or.inr (Or.inl rfl)) (hts (.classLink RX8 51 xIA) (by decide +kernel)) (hts (.initialized xIA) (by decide +kernel)) 11 rfl (by decide +kernel) (by decide +kernel) (by decide +kernel) (by decide +kernel) hS hl.1 dX8_personOf_14 dX8_personOf_17 dX8_personOf_18 dX8_personOf_20 dX8_personOf_23 htab (Nat.le_of_ble_eq_true rfl) (Nat.le_of_ble_eq_true rfl) (Nat.le_of_ble_eq_true rfl) (Nat.le_of_ble_eq_true rfl) hlk (⟨1, by unfold peC; rw [p_1, n_11]; rfl, rfl⟩) hk2 rfl hS.2.2 (Nat.le_of_ble_eq_true rfl) (Nat.le_of_ble_eq_true rfl)

abbrev rm_X8_veils : Room := { frames := 7, cells := 2, slots := 12, locals := 111 }
theorem k_X8_veils : Cal yX8_veils wsX8_veils rm_X8_veils cX8_veils 3 (some .int) 2 2 12 := ⟨⟨_, rfl⟩, rfl, rfl, by decide +kernel⟩
set_option maxHeartbeats 4000000 in
set_option maxRecDepth 100000 in
theorem m_X8_veils (l : Launch) (Γ : Gm) (sz : Nat) (hfl : l.stackTraces = false) (a : Nat → Nat) (b : Nat → Nat → Nat) (rf : Nat → Option Nat) (f : Nat → Nat → Int32) (z : Nat → Int32) (F : Nat → Nat → Nat → Int32) (Z : Nat → Nat → Int32) (σ : Nat → Nat) (hR : Rep σ f z) (hI : Inv σ) (ip ix : Int32) : MEi l yX8_veils wsX8_veils rm_X8_veils Γ sz (wXo Γ a b rf f z F Z) [.ref (a 34), .int ip, .int ix] (fun r => veC σ ip ix = 0 ∧ r = nI (vmk σ ip.toNatClampNeg ix.toNatClampNeg)) (fun E => exc [xIO] E (veC σ ip ix)) 2 12 := by
  refine mE (cc := cX8_veils) (maxL := 3) (ret := (some .int)) (own := RX8) (by decide) rfl rfl (Nat.le_of_ble_eq_true rfl) ?_
  intro p e s m args below meth c S hrt hlk htab hsz hE hK hP ls hl
  subst hsz
  have hA : ∀ q, s.heap.size ≤ q → (fun q => s.heap.size ≤ q) q := fun _ h => h
  have hS : va_S (fun q => s.heap.size ≤ q) s.heap s.heap [] := va_S.rf
  have hk2 : ∀ q : Nat, q < s.heap.size → s.heap[q]? = s.heap[q]? := fun _ _ => rfl
  obtain ⟨hx, hb, hml, hown, hts⟩ := id S
  have hl : lv_has ls 3 [(0, .ref (a 34)), (1, .int ip), (2, .int ix)] := hl
  have hP : gP Γ (wXo Γ a b rf f z F Z) s.heap := hP
  refine lv_iload_n hx hb dX8_veils_0 rfl (lv_at hl 1 rfl) ?_
  refine xCs (As := [.int ip]) (rest := []) (m_X8_requireAsker l Γ _ hfl ip) hE S k_X8_requireAsker gX8_veils_X8_requireAsker ⟨Nat.le_of_ble_eq_true rfl, Nat.le_of_ble_eq_true rfl⟩ hK hP hS hA hk2 rfl hl.1 (Nat.le_of_ble_eq_true rfl) rfl dX8_veils_1 ⟨Nat.le_of_ble_eq_true rfl, Nat.le_of_ble_eq_true rfl⟩ (fun E ce q9 H locs hp hS hk2 h1 h2 h3 => xOut htab hlk h1 h2 h3 (⟨0, by unfold veC; rw [hp.2]; rfl, by rw [hp.1]; rfl⟩) hS.1 hk2 rfl hS.2.2 (Nat.le_of_ble_eq_true rfl) (Nat.le_of_ble_eq_true rfl)) (fun H locs p_1 hP hS hk2 => ?_)
  obtain ⟨p0, hp, rfl⟩ := in_lt (by decide) p_1
  refine lv_aload_n hx hb dX8_veils_4 rfl (lv_at hl 0 rfl) ?_
  refine lv_iload_n hx hb dX8_veils_5 rfl (lv_at hl 2 rfl) ?_
  refine xCv (As := [.int ix]) (rest := []) (m_X8_requireRow l Γ _ hfl a b rf f z F Z σ hR hI ix) hE S k_X8_requireRow gX8_veils_X8_requireRow rfl ⟨Nat.le_of_ble_eq_true rfl, Nat.le_of_ble_eq_true rfl⟩ hK hP hS hA hk2 rfl 0 (ci := 8) rfl rfl rfl rfl hl.1 (Nat.le_of_ble_eq_true rfl) rfl dX8_veils_6 ⟨Nat.le_of_ble_eq_true rfl, Nat.le_of_ble_eq_true rfl⟩ (fun E ce q9 H locs hp hS hk2 h1 h2 h3 => xOut htab hlk h1 h2 h3 (⟨0, by unfold veC; rw [p_1, hp.2]; rfl, by rw [hp.1]; rfl⟩) hS.1 hk2 rfl hS.2.2 (Nat.le_of_ble_eq_true rfl) (Nat.le_of_ble_eq_true rfl)) (fun H locs p_6 hP hS hk2 => ?_)
  obtain ⟨q, hq0, rfl⟩ := in_row hI.n p_6
  refine lv_aload_n hx hb dX8_veils_9 rfl (lv_at hl 0 rfl) ?_
  refine va_get (D := Γ.1) (ci := 8) (v := .ref (a 0)) (C := RX8) (T := TX8) (N := 3) hx hb hts (by decide +kernel) hown hK hP 0 rfl rfl 0 (by decide) (hts (.fieldLink RX8 10 "RowVeils" "state" "LRowVeils$State;") (by decide +kernel)) (fun _ h9 => h9) rfl dX8_veils_10 ?_
  refine lv_iload_n hx hb dX8_veils_13 rfl (lv_at hl 1 rfl) ?_
  refine lv_iload_n hx hb dX8_veils_14 rfl (lv_at hl 2 rfl) ?_
  have hn := hI.n
  refine cRi (As := [.int (nI p0), .int (nI q)]) (rest := []) (m_X6_veilMask l Γ a f z σ hR hI p0 q (by omega) hq0) S k_X6_veilMask gX8_veils_X6_veilMask rfl ⟨Nat.le_of_ble_eq_true rfl, Nat.le_of_ble_eq_true rfl⟩ hK hP [1, 2, 3, 4, 5, 6, 7, 8, 9, 10, 11, 12, 13, 14, 15, 16, 17, 18, 19, 20, 21, 22, 23, 24, 25, 26, 27, 28, 29] rfl 0 (ci := 6) rfl rfl rfl rfl hl.1 (Nat.le_of_ble_eq_true rfl) rfl dX8_veils_15 ⟨Nat.le_of_ble_eq_true rfl, Nat.le_of_ble_eq_true rfl⟩ (fun r hr => ?_)
  subst hr
  refine W.widen (k := 2) (n := 12) (Nat.le_of_ble_eq_true rfl) (Nat.le_of_ble_eq_true rfl) ?_
  exact vx_ret (W.iret (v := nI (vmk σ p0 q)) hx hb hrt (fun t9 ht9 hW9 => ⟨⟨_, (), rfl, ⟨by unfold veC; rw [p_1, p_6]; rfl, by rw [nI_clamp (by omega), nI_clamp (by omega)]⟩, trivial⟩, eF hS.1 hk2 ht9⟩) hS.2.2 dX8_veils_18 hlk)

abbrev rm_X8_remembered : Room := { frames := 7, cells := 2, slots := 12, locals := 110 }
theorem k_X8_remembered : Cal yX8_remembered wsX8_remembered rm_X8_remembered cX8_remembered 3 (some .int) 2 2 12 := ⟨⟨_, rfl⟩, rfl, rfl, by decide +kernel⟩
set_option maxHeartbeats 4000000 in
set_option maxRecDepth 100000 in
theorem m_X8_remembered (l : Launch) (Γ : Gm) (sz : Nat) (hfl : l.stackTraces = false) (a : Nat → Nat) (b : Nat → Nat → Nat) (rf : Nat → Option Nat) (f : Nat → Nat → Int32) (z : Nat → Int32) (F : Nat → Nat → Nat → Int32) (Z : Nat → Nat → Int32) (σ : Nat → Nat) (hR : Rep σ f z) (hI : Inv σ) (ip ik : Int32) : MEi l yX8_remembered wsX8_remembered rm_X8_remembered Γ sz (wXo Γ a b rf f z F Z) [.ref (a 34), .int ip, .int ik] (fun r => reC ip ik = 0 ∧ r = remV σ ip.toNatClampNeg ik.toNatClampNeg) (fun E => exc [xIO, xIA] E (reC ip ik)) 2 12 := by
  refine mE (cc := cX8_remembered) (maxL := 3) (ret := (some .int)) (own := RX8) (by decide) rfl rfl (Nat.le_of_ble_eq_true rfl) ?_
  intro p e s m args below meth c S hrt hlk htab hsz hE hK hP ls hl
  subst hsz
  have hA : ∀ q, s.heap.size ≤ q → (fun q => s.heap.size ≤ q) q := fun _ h => h
  have hS : va_S (fun q => s.heap.size ≤ q) s.heap s.heap [] := va_S.rf
  have hk2 : ∀ q : Nat, q < s.heap.size → s.heap[q]? = s.heap[q]? := fun _ _ => rfl
  obtain ⟨hx, hb, hml, hown, hts⟩ := id S
  have hl : lv_has ls 3 [(0, .ref (a 34)), (1, .int ip), (2, .int ik)] := hl
  have hP : gP Γ (wXo Γ a b rf f z F Z) s.heap := hP
  refine lv_iload_n hx hb dX8_remembered_0 rfl (lv_at hl 1 rfl) ?_
  refine xCs (As := [.int ip]) (rest := []) (m_X8_requireAsker l Γ _ hfl ip) hE S k_X8_requireAsker gX8_remembered_X8_requireAsker ⟨Nat.le_of_ble_eq_true rfl, Nat.le_of_ble_eq_true rfl⟩ hK hP hS hA hk2 rfl hl.1 (Nat.le_of_ble_eq_true rfl) rfl dX8_remembered_1 ⟨Nat.le_of_ble_eq_true rfl, Nat.le_of_ble_eq_true rfl⟩ (fun E ce q9 H locs hp hS hk2 h1 h2 h3 => xOut htab hlk h1 h2 h3 (⟨0, by unfold reC; rw [hp.2]; rfl, by rw [hp.1]; rfl⟩) hS.1 hk2 rfl hS.2.2 (Nat.le_of_ble_eq_true rfl) (Nat.le_of_ble_eq_true rfl)) (fun H locs p_1 hP hS hk2 => ?_)
  obtain ⟨p0, hp, rfl⟩ := in_lt (by decide) p_1
  refine lv_iload_n hx hb dX8_remembered_4 rfl (lv_at hl 2 rfl) ?_
  refine lv_if_ge (tgt := 18) hx hb dX8_remembered_5 (by decide) (fun c_5 => ?_) (fun c_5 => ?_)
  · obtain ⟨j, hj, rfl⟩ := nI_of (Int32.not_lt.mpr c_5)
    refine lv_aload_n hx hb dX8_remembered_18 rfl (lv_at hl 0 rfl) ?_
    refine va_get (D := Γ.1) (ci := 8) (v := .ref (a 0)) (C := RX8) (T := TX8) (N := 3) hx hb hts (by decide +kernel) hown hK hP 0 rfl rfl 0 (by decide) (hts (.fieldLink RX8 10 "RowVeils" "state" "LRowVeils$State;") (by decide +kernel)) (fun _ h9 => h9) rfl dX8_remembered_19 ?_
    refine va_get (D := Γ.1) (ci := 6) (v := .ref (a 17)) (C := RX6) (T := TX6) (N := 6) hx hb hts (by decide +kernel) hown hK hP 1 rfl rfl 2 (by decide) (hts (.fieldLink RX8 90 "RowVeils$State" "memory" "LRowVeils$Memory;") (by decide +kernel)) (fun _ h9 => h9) rfl dX8_remembered_22 ?_
    refine lv_iload_n hx hb dX8_remembered_25 rfl (lv_at hl 1 rfl) ?_
    refine lv_iload_n hx hb dX8_remembered_26 rfl (lv_at hl 2 rfl) ?_
    refine cRi (As := [.int (nI p0), .int (nI j)]) (rest := []) (m_X2_maskAt l Γ (fun k => a (k + 17)) (fun k => f (k + 7)) p0 (oK σ p0) (by omega) (hI.kept (by omega)) (hR.kept (by omega)) j hj) S k_X2_maskAt gX8_remembered_X2_maskAt rfl ⟨Nat.le_of_ble_eq_true rfl, Nat.le_of_ble_eq_true rfl⟩ hK hP [18, 19, 20, 21, 22] rfl 0 (ci := 2) rfl rfl rfl rfl hl.1 (Nat.le_of_ble_eq_true rfl) rfl dX8_remembered_27 ⟨Nat.le_of_ble_eq_true rfl, Nat.le_of_ble_eq_true rfl⟩ (fun r hr => ?_)
    subst hr
    refine asi (z := remV σ p0 j) (by unfold remV; split <;> first | (rename_i h9; exact hR.mask (by omega) h9) | rfl) ?_
    refine W.widen (k := 2) (n := 12) (Nat.le_of_ble_eq_true rfl) (Nat.le_of_ble_eq_true rfl) ?_
    exact vx_ret (W.iret (v := remV σ p0 j) hx hb hrt (fun t9 ht9 hW9 => ⟨⟨_, (), rfl, ⟨by unfold reC; rw [p_1, if_neg (by decide), if_neg (Int32.not_lt.mpr c_5)], by rw [nI_clamp (by omega), nI_clamp hj]⟩, trivial⟩, eF hS.1 hk2 ht9⟩) hS.2.2 dX8_remembered_30 hlk)
  · exact xThr (ik := 51) (is := 234) (ic := 55) (text := "place is below 0") (cls := xIA) hfl S hE (Or.inr (Or.inl rfl)) (hts (.classLink RX8 51 xIA) (by decide +kernel)) (hts (.initialized xIA) (by decide +kernel)) 12 rfl (by decide +kernel) (by decide +kernel) (by decide +kernel) (by decide +kernel) hS hl.1 dX8_remembered_8 dX8_remembered_11 dX8_remembered_12 dX8_remembered_14 dX8_remembered_17 htab (Nat.le_of_ble_eq_true rfl) (Nat.le_of_ble_eq_true rfl) (Nat.le_of_ble_eq_true rfl) (Nat.le_of_ble_eq_true rfl) hlk (⟨1, by unfold reC; rw [p_1, if_neg (by decide), if_pos (Int32.not_le.mp c_5)], rfl⟩) hk2 rfl hS.2.2 (Nat.le_of_ble_eq_true rfl) (Nat.le_of_ble_eq_true rfl)

abbrev rm_X8_count : Room := { frames := 6, cells := 1, slots := 6, locals := 138 }
theorem k_X8_count : Cal yX8_count wsX8_count rm_X8_count cX8_count 2 (some .int) 1 1 6 := ⟨⟨_, rfl⟩, rfl, rfl, by decide +kernel⟩
set_option maxHeartbeats 4000000 in
set_option maxRecDepth 100000 in
theorem m_X8_count (l : Launch) (Γ : Gm) (sz : Nat) (hfl : l.stackTraces = false) (a : Nat → Nat) (b : Nat → Nat → Nat) (rf : Nat → Option Nat) (f : Nat → Nat → Int32) (z : Nat → Int32) (F : Nat → Nat → Nat → Int32) (Z : Nat → Nat → Int32) (σ : Nat → Nat) (hR : Rep σ f z) (hI : Inv σ) (iw : Int32) : MEi l yX8_count wsX8_count rm_X8_count Γ sz (wXo Γ a b rf f z F Z) [.ref (a 34), .int iw] (fun r => coC iw = 0 ∧ r = cntQ σ (z 4) iw.toNatClampNeg) (fun E => exc [xIA] E (coC iw)) 1 6 := by
  refine mE (cc := cX8_count) (maxL := 2) (ret := (some .int)) (own := RX8) (by decide) rfl rfl (Nat.le_of_ble_eq_true rfl) ?_
  intro p e s m args below meth c S hrt hlk htab hsz hE hK hP ls hl
  subst hsz
  have hA : ∀ q, s.heap.size ≤ q → (fun q => s.heap.size ≤ q) q := fun _ h => h
  have hS : va_S (fun q => s.heap.size ≤ q) s.heap s.heap [] := va_S.rf
  have hk2 : ∀ q : Nat, q < s.heap.size → s.heap[q]? = s.heap[q]? := fun _ _ => rfl
  obtain ⟨hx, hb, hml, hown, hts⟩ := id S
  have hl : lv_has ls 2 [(0, .ref (a 34)), (1, .int iw)] := hl
  have hP : gP Γ (wXo Γ a b rf f z F Z) s.heap := hP
  refine lv_iload_n hx hb dX8_count_0 rfl (lv_at hl 1 rfl) ?_
  refine lv_iconst (v := nI 0) hx hb dX8_count_1 (by decide) ?_
  refine lv_bipush (v := nI 9) hx hb dX8_count_2 (by decide) ?_
  refine cSi (As := [.int iw, .int (nI 0), .int (nI 9)]) (rest := []) (m_X8_isWithin l iw (nI 0) (nI 9)) S k_X8_isWithin gX8_count_X8_isWithin ⟨Nat.le_of_ble_eq_true rfl, Nat.le_of_ble_eq_true rfl⟩ rfl hl.1 (Nat.le_of_ble_eq_true rfl) rfl dX8_count_4 ⟨Nat.le_of_ble_eq_true rfl, Nat.le_of_ble_eq_true rfl⟩ (fun r hr => ?_)
  subst hr
  refine lv_if_ne (tgt := 20) hx hb dX8_count_7 (by decide) (fun c_7 => ?_) (fun c_7 => ?_)
  · have n_7 := bI_nz.mp c_7
    obtain ⟨w, hw, rfl⟩ := in_lt (by decide) n_7
    refine lv_aload_n hx hb dX8_count_20 rfl (lv_at hl 0 rfl) ?_
    refine lv_iload_n hx hb dX8_count_21 rfl (lv_at hl 1 rfl) ?_
    refine cRi (As := [.int (nI w)]) (rest := []) (m_X8_total l Γ a rf f z σ hR hI w (by omega)) S k_X8_total gX8_count_X8_total rfl ⟨Nat.le_of_ble_eq_true rfl, Nat.le_of_ble_eq_true rfl⟩ hK hP [0, 1, 2, 3, 4, 5, 6, 7, 8, 9, 10, 11, 12, 13, 14, 15, 16, 17, 18, 19, 20, 21, 22, 23, 24, 25, 26, 27, 28, 29, 30, 31, 32, 33, 34] rfl 0 (ci := 8) rfl rfl rfl rfl hl.1 (Nat.le_of_ble_eq_true rfl) rfl dX8_count_22 ⟨Nat.le_of_ble_eq_true rfl, Nat.le_of_ble_eq_true rfl⟩ (fun r hr => ?_)
    subst hr
    refine W.widen (k := 1) (n := 6) (Nat.le_of_ble_eq_true rfl) (Nat.le_of_ble_eq_true rfl) ?_
    exact vx_ret (W.iret (v := cntQ σ (z 4) w) hx hb hrt (fun t9 ht9 hW9 => ⟨⟨_, (), rfl, ⟨by unfold coC; rw [n_7]; rfl, by rw [nI_clamp (by omega)]⟩, trivial⟩, eF hS.1 hk2 ht9⟩) hS.2.2 dX8_count_25 hlk)
  · have n_7 := bI_z.mp c_7
    exact xThr (ik := 51) (is := 239) (ic := 55) (text := "what is not 0 to 9") (cls := xIA) hfl S hE (Or.inr (Or.inl rfl)) (hts (.classLink RX8 51 xIA) (by decide +kernel)) (hts (.initialized xIA) (by decide +kernel)) 13 rfl (by decide +kernel) (by decide +kernel) (by decide +kernel) (by decide +kernel) hS hl.1 dX8_count_10 dX8_count_13 dX8_count_14 dX8_count_16 dX8_count_19 htab (Nat.le_of_ble_eq_true rfl) (Nat.le_of_ble_eq_true rfl) (Nat.le_of_ble_eq_true rfl) (Nat.le_of_ble_eq_true rfl) hlk (⟨0, by unfold coC; rw [n_7]; rfl, rfl⟩) hk2 rfl hS.2.2 (Nat.le_of_ble_eq_true rfl) (Nat.le_of_ble_eq_true rfl)

abbrev rm_X8_ifAsked : Room := { frames := 7, cells := 2, slots := 12, locals := 115 }
theorem k_X8_ifAsked : Cal yX8_ifAsked wsX8_ifAsked rm_X8_ifAsked cX8_ifAsked 6 (some .int) 5 2 12 := ⟨⟨_, rfl⟩, rfl, rfl, by decide +kernel⟩
set_option maxHeartbeats 4000000 in
set_option maxRecDepth 100000 in
theorem m_X8_ifAsked (l : Launch) (Γ : Gm) (sz : Nat) (hfl : l.stackTraces = false) (a : Nat → Nat) (b : Nat → Nat → Nat) (rf : Nat → Option Nat) (f : Nat → Nat → Int32) (z : Nat → Int32) (F : Nat → Nat → Nat → Int32) (Z : Nat → Nat → Int32) (σ : Nat → Nat) (hR : Rep σ f z) (hI : Inv σ) (ip ipl il ih iw : Int32) : MEi l yX8_ifAsked wsX8_ifAsked rm_X8_ifAsked Γ sz (wXo Γ a b rf f z F Z) [.ref (a 34), .int ip, .int ipl, .int il, .int ih, .int iw] (fun r => ifC ip ipl il ih iw = 0 ∧ r = wouQ σ ip.toNatClampNeg ipl il.toNatClampNeg ih.toNatClampNeg iw.toNatClampNeg) (fun E => exc [xIO, xIA] E (ifC ip ipl il ih iw)) 2 12 := by
  refine mE (cc := cX8_ifAsked) (maxL := 6) (ret := (some .int)) (own := RX8) (by decide) rfl rfl (Nat.le_of_ble_eq_true rfl) ?_
  intro p e s m args below meth c S hrt hlk htab hsz hE hK hP ls hl
  subst hsz
  have hA : ∀ q, s.heap.size ≤ q → (fun q => s.heap.size ≤ q) q := fun _ h => h
  have hS : va_S (fun q => s.heap.size ≤ q) s.heap s.heap [] := va_S.rf
  have hk2 : ∀ q : Nat, q < s.heap.size → s.heap[q]? = s.heap[q]? := fun _ _ => rfl
  obtain ⟨hx, hb, hml, hown, hts⟩ := id S
  have hl : lv_has ls 6 [(0, .ref (a 34)), (1, .int ip), (2, .int ipl), (3, .int il), (4, .int ih), (5, .int iw)] := hl
  have hP : gP Γ (wXo Γ a b rf f z F Z) s.heap := hP
  refine lv_iload_n hx hb dX8_ifAsked_0 rfl (lv_at hl 1 rfl) ?_
  refine lv_iload_n hx hb dX8_ifAsked_1 rfl (lv_at hl 2 rfl) ?_
  refine lv_iload_n hx hb dX8_ifAsked_2 rfl (lv_at hl 3 rfl) ?_
  refine lv_iload hx hb dX8_ifAsked_3 (lv_at hl 4 rfl) ?_
  refine xCs (As := [.int ip, .int ipl, .int il, .int ih]) (rest := []) (m_X8_requireQuestion l Γ _ hfl ip ipl il ih) hE S k_X8_requireQuestion gX8_ifAsked_X8_requireQuestion ⟨Nat.le_of_ble_eq_true rfl, Nat.le_of_ble_eq_true rfl⟩ hK hP hS hA hk2 rfl hl.1 (Nat.le_of_ble_eq_true rfl) rfl dX8_ifAsked_5 ⟨Nat.le_of_ble_eq_true rfl, Nat.le_of_ble_eq_true rfl⟩ (fun E ce q9 H locs hp hS hk2 h1 h2 h3 => xOut htab hlk h1 h2 h3 (ifC_q hp) hS.1 hk2 rfl hS.2.2 (Nat.le_of_ble_eq_true rfl) (Nat.le_of_ble_eq_true rfl)) (fun H locs p_5 hP hS hk2 => ?_)
  obtain ⟨p0, lo, hi2, hp, hlo, hlh, hhi, rfl, hpl, rfl, rfl⟩ := qCode_ok p_5
  refine lv_iload hx hb dX8_ifAsked_8 (lv_at hl 5 rfl) ?_
  refine lv_iconst (v := nI 0) hx hb dX8_ifAsked_10 (by decide) ?_
  refine lv_iconst (v := nI 3) hx hb dX8_ifAsked_11 (by decide) ?_
  refine cSi (As := [.int iw, .int (nI 0), .int (nI 3)]) (rest := []) (m_X8_isWithin l iw (nI 0) (nI 3)) S k_X8_isWithin gX8_ifAsked_X8_isWithin ⟨Nat.le_of_ble_eq_true rfl, Nat.le_of_ble_eq_true rfl⟩ rfl hl.1 (Nat.le_of_ble_eq_true rfl) rfl dX8_ifAsked_12 ⟨Nat.le_of_ble_eq_true rfl, Nat.le_of_ble_eq_true rfl⟩ (fun r hr => ?_)
  subst hr
  refine lv_if_ne (tgt := 28) hx hb dX8_ifAsked_15 (by decide) (fun c_15 => ?_) (fun c_15 => ?_)
  · have n_15 := bI_nz.mp c_15
    obtain ⟨w, hw, rfl⟩ := in_lt (by decide) n_15
    refine lv_aload_n hx hb dX8_ifAsked_28 rfl (lv_at hl 0 rfl) ?_
    refine lv_iload_n hx hb dX8_ifAsked_29 rfl (lv_at hl 1 rfl) ?_
    refine lv_iload_n hx hb dX8_ifAsked_30 rfl (lv_at hl 2 rfl) ?_
    refine lv_iload_n hx hb dX8_ifAsked_31 rfl (lv_at hl 3 rfl) ?_
    refine lv_iload hx hb dX8_ifAsked_32 (lv_at hl 4 rfl) ?_
    refine lv_iload hx hb dX8_ifAsked_34 (lv_at hl 5 rfl) ?_
    refine cRi (As := [.int (nI p0), .int ipl, .int (nI lo), .int (nI hi2), .int (nI w)]) (rest := []) (m_X8_answerIf l Γ a rf f z σ hR hI p0 hp ipl lo hi2 (by omega) (by omega) w (by omega)) S k_X8_answerIf gX8_ifAsked_X8_answerIf rfl ⟨Nat.le_of_ble_eq_true rfl, Nat.le_of_ble_eq_true rfl⟩ hK hP [0, 1, 2, 3, 4, 5, 6, 7, 8, 9, 10, 11, 12, 13, 14, 15, 16, 17, 18, 19, 20, 21, 22, 23, 24, 25, 26, 27, 28, 29, 30, 31, 32, 33, 34] rfl 0 (ci := 8) rfl rfl rfl rfl hl.1 (Nat.le_of_ble_eq_true rfl) rfl dX8_ifAsked_36 ⟨Nat.le_of_ble_eq_true rfl, Nat.le_of_ble_eq_true rfl⟩ (fun r hr => ?_)
    subst hr
    refine W.widen (k := 2) (n := 12) (Nat.le_of_ble_eq_true rfl) (Nat.le_of_ble_eq_true rfl) ?_
    exact vx_ret (W.iret (v := wouQ σ p0 ipl lo hi2 w) hx hb hrt (fun t9 ht9 hW9 => ⟨⟨_, (), rfl, ⟨by unfold ifC; rw [p_5, n_15]; rfl, by rw [nI_clamp (by omega), nI_clamp (by omega), nI_clamp (by omega), nI_clamp (by omega)]⟩, trivial⟩, eF hS.1 hk2 ht9⟩) hS.2.2 dX8_ifAsked_39 hlk)
  · have n_15 := bI_z.mp c_15
    exact xThr (ik := 51) (is := 244) (ic := 55) (text := "what is not 0 to 3") (cls := xIA) hfl S hE (Or.inr (Or.inl rfl)) (hts (.classLink RX8 51 xIA) (by decide +kernel)) (hts (.initialized xIA) (by decide +kernel)) 14 rfl (by decide +kernel) (by decide +kernel) (by decide +kernel) (by decide +kernel) hS hl.1 dX8_ifAsked_18 dX8_ifAsked_21 dX8_ifAsked_22 dX8_ifAsked_24 dX8_ifAsked_27 htab (Nat.le_of_ble_eq_true rfl) (Nat.le_of_ble_eq_true rfl) (Nat.le_of_ble_eq_true rfl) (Nat.le_of_ble_eq_true rfl) hlk (⟨1, by unfold ifC; rw [p_5, n_15]; rfl, rfl⟩) hk2 rfl hS.2.2 (Nat.le_of_ble_eq_true rfl) (Nat.le_of_ble_eq_true rfl)

abbrev rm_X8_hides : Room := { frames := 7, cells := 1, slots := 6, locals := 110 }
theorem k_X8_hides : Cal yX8_hides wsX8_hides rm_X8_hides cX8_hides 2 (some .int) 1 1 6 := ⟨⟨_, rfl⟩, rfl, rfl, by decide +kernel⟩
set_option maxHeartbeats 4000000 in
set_option maxRecDepth 100000 in
theorem m_X8_hides (l : Launch) (Γ : Gm) (sz : Nat) (hfl : l.stackTraces = false) (a : Nat → Nat) (b : Nat → Nat → Nat) (rf : Nat → Option Nat) (f : Nat → Nat → Int32) (z : Nat → Int32) (F : Nat → Nat → Nat → Int32) (Z : Nat → Nat → Int32) (σ : Nat → Nat) (hR : Rep σ f z) (hI : Inv σ) (ip : Int32) : MEi l yX8_hides wsX8_hides rm_X8_hides Γ sz (wXo Γ a b rf f z F Z) [.ref (a 34), .int ip] (fun r => hiC ip = 0 ∧ r = nI (hidQ σ ip.toNatClampNeg)) (fun E => exc [xIO] E (hiC ip)) 1 6 := by
  refine mE (cc := cX8_hides) (maxL := 2) (ret := (some .int)) (own := RX8) (by decide) rfl rfl (Nat.le_of_ble_eq_true rfl) ?_
  intro p e s m args below meth c S hrt hlk htab hsz hE hK hP ls hl
  subst hsz
  have hA : ∀ q, s.heap.size ≤ q → (fun q => s.heap.size ≤ q) q := fun _ h => h
  have hS : va_S (fun q => s.heap.size ≤ q) s.heap s.heap [] := va_S.rf
  have hk2 : ∀ q : Nat, q < s.heap.size → s.heap[q]? = s.heap[q]? := fun _ _ => rfl
  obtain ⟨hx, hb, hml, hown, hts⟩ := id S
  have hl : lv_has ls 2 [(0, .ref (a 34)), (1, .int ip)] := hl
  have hP : gP Γ (wXo Γ a b rf f z F Z) s.heap := hP
  refine lv_iload_n hx hb dX8_hides_0 rfl (lv_at hl 1 rfl) ?_
  refine xCs (As := [.int ip]) (rest := []) (m_X8_requireRule l Γ _ hfl ip) hE S k_X8_requireRule gX8_hides_X8_requireRule ⟨Nat.le_of_ble_eq_true rfl, Nat.le_of_ble_eq_true rfl⟩ hK hP hS hA hk2 rfl hl.1 (Nat.le_of_ble_eq_true rfl) rfl dX8_hides_1 ⟨Nat.le_of_ble_eq_true rfl, Nat.le_of_ble_eq_true rfl⟩ (fun E ce q9 H locs hp hS hk2 h1 h2 h3 => xOut htab hlk h1 h2 h3 (⟨0, by unfold hiC; rw [hp.2]; rfl, by rw [hp.1]; rfl⟩) hS.1 hk2 rfl hS.2.2 (Nat.le_of_ble_eq_true rfl) (Nat.le_of_ble_eq_true rfl)) (fun H locs p_1 hP hS hk2 => ?_)
  obtain ⟨p0, hp, rfl⟩ := in_lt (by decide) p_1
  refine lv_aload_n hx hb dX8_hides_4 rfl (lv_at hl 0 rfl) ?_
  refine va_get (D := Γ.1) (ci := 8) (v := .ref (a 0)) (C := RX8) (T := TX8) (N := 3) hx hb hts (by decide +kernel) hown hK hP 0 rfl rfl 0 (by decide) (hts (.fieldLink RX8 10 "RowVeils" "state" "LRowVeils$State;") (by decide +kernel)) (fun _ h9 => h9) rfl dX8_hides_5 ?_
  refine lv_iload_n hx hb dX8_hides_8 rfl (lv_at hl 1 rfl) ?_
  refine cRi (As := [.int (nI p0)]) (rest := []) (m_X6_hiddenByAlone l Γ a f z σ hR hI p0 (by omega)) S k_X6_hiddenByAlone gX8_hides_X6_hiddenByAlone rfl ⟨Nat.le_of_ble_eq_true rfl, Nat.le_of_ble_eq_true rfl⟩ hK hP [1, 2, 3, 4, 5, 6, 7, 8, 9, 10, 11, 12, 13, 14, 15, 16, 17, 18, 19, 20, 21, 22, 23, 24, 25, 26, 27, 28, 29] rfl 0 (ci := 6) rfl rfl rfl rfl hl.1 (Nat.le_of_ble_eq_true rfl) rfl dX8_hides_9 ⟨Nat.le_of_ble_eq_true rfl, Nat.le_of_ble_eq_true rfl⟩ (fun r hr => ?_)
  subst hr
  refine W.widen (k := 1) (n := 6) (Nat.le_of_ble_eq_true rfl) (Nat.le_of_ble_eq_true rfl) ?_
  exact vx_ret (W.iret (v := nI (hidQ σ p0)) hx hb hrt (fun t9 ht9 hW9 => ⟨⟨_, (), rfl, ⟨by unfold hiC; rw [p_1]; rfl, by rw [nI_clamp (by omega)]⟩, trivial⟩, eF hS.1 hk2 ht9⟩) hS.2.2 dX8_hides_12 hlk)



abbrev rm_X8_openness : Room := { frames := 6, cells := 0, slots := 0, locals := 138 }
theorem k_X8_openness : Cal yX8_openness wsX8_openness rm_X8_openness cX8_openness 1 (some .double) 0 0 0 := ⟨⟨_, rfl⟩, rfl, rfl, by decide +kernel⟩
set_option maxHeartbeats 4000000 in
set_option maxRecDepth 100000 in
theorem m_X8_openness (l : Launch) (Γ : Gm) (a : Nat → Nat) (b : Nat → Nat → Nat) (rf : Nat → Option Nat) (f : Nat → Nat → Int32) (z : Nat → Int32) (F : Nat → Nat → Nat → Int32) (Z : Nat → Nat → Int32) (σ : Nat → Nat) (hR : Rep σ f z) (hI : Inv σ)  : MRd l yX8_openness wsX8_openness rm_X8_openness Γ (wXo Γ a b rf f z F Z) [.ref (a 34)] (fun r => r = shareQ σ) := by
  refine mR (cc := cX8_openness) (maxL := 1) (ret := (some .double)) (own := RX8) (by decide) rfl rfl (Nat.le_of_ble_eq_true rfl) ?_
  intro p e s m args below meth c S hrt hlk hK hP ls hl
  obtain ⟨hx, hb, hml, hown, hts⟩ := id S
  have hl : lv_has ls 1 [(0, .ref (a 34))] := hl
  have hP : gP Γ (wXo Γ a b rf f z F Z) s.heap := hP
  refine lv_aload_n hx hb dX8_openness_0 rfl (lv_at hl 0 rfl) ?_
  refine va_get (D := Γ.1) (ci := 8) (v := .ref (a 0)) (C := RX8) (T := TX8) (N := 3) hx hb hts (by decide +kernel) hown hK hP 0 rfl rfl 0 (by decide) (hts (.fieldLink RX8 10 "RowVeils" "state" "LRowVeils$State;") (by decide +kernel)) (fun _ h9 => h9) rfl dX8_openness_1 ?_
  refine cRd (As := []) (rest := []) (m_X6_shareSeen l Γ a f z σ hR hI ) S k_X6_shareSeen gX8_openness_X6_shareSeen rfl ⟨Nat.le_of_ble_eq_true rfl, Nat.le_of_ble_eq_true rfl⟩ hK hP [1, 2, 3, 4, 5, 6, 7, 8, 9, 10, 11, 12, 13, 14, 15, 16, 17, 18, 19, 20, 21, 22, 23, 24, 25, 26, 27, 28, 29] rfl 0 (ci := 6) rfl rfl rfl rfl hl.1 (Nat.le_of_ble_eq_true rfl) rfl dX8_openness_4 ⟨Nat.le_of_ble_eq_true rfl, Nat.le_of_ble_eq_true rfl⟩ (fun r hr => ?_)
  subst hr
  exact W.dret (v := shareQ σ) hx hb hrt (fun t9 ht9 hW9 => ⟨_, rfl, rfl, ht9⟩) (fun _ h9 => nomatch h9) dX8_openness_7 hlk

