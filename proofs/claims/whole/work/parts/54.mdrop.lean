/-! The reference: a row dropped. -/
theorem RepM.cg {σ τ : Nat → Nat} {g : Nat → Int32} (h : RepM σ g) (e : ∀ j, j < 130 → σ j = τ j) : RepM τ g := fun j hj => (h j hj).trans (congrArg nI (e j hj))
def d1S (σ : Nat → Nat) (q k : Nat) : Nat → Nat := fun j => if j = 0 then σ 0 - 1 else if 6 + 4 * q ≤ j ∧ j < 6 + k then σ (j + 4) else σ j
def d2S (σ : Nat → Nat) (q k : Nat) : Nat → Nat := fun j => if j = 0 then σ 0 - 1 else if 6 + 4 * (σ 0 - 1) ≤ j ∧ j < 6 + 4 * (σ 0 - 1) + k then 0 else if 6 + 4 * q ≤ j ∧ j < 6 + 4 * (σ 0 - 1) then σ (j + 4) else σ j
abbrev d3Q (σ : Nat → Nat) (a k j : Nat) : Prop := 95 ≤ j ∧ ¬ (j - 95) % 7 = 0 ∧ (j - 96) % 7 < σ (95 + 7 * ((j - 95) / 7)) ∧ ((j - 95) / 7 < a ∨ ((j - 95) / 7 = a ∧ (j - 96) % 7 < k))
def d3S (σ : Nat → Nat) (q a k : Nat) : Nat → Nat := fun j => if d3Q σ a k j then tkN q (σ j) else d2S σ q 4 j
section DR
variable {σ : Nat → Nat} {q : Nat}
theorem d1_0 : ∀ j, nup σ 0 (σ 0 - 1) j = d1S σ q (4 * q) j := fun j => by
  unfold nup d1S
  by_cases c : j = 0
  · rw [if_pos c, if_pos c]
  · rw [if_neg c, if_neg c, if_neg (by omega)]
theorem d1_s {k : Nat} (hk : 4 * q ≤ k) : ∀ j, nup (d1S σ q k) (6 + k) (σ (6 + k + 4)) j = d1S σ q (k + 1) j := fun j => by
  unfold nup d1S
  by_cases c : j = 6 + k
  · rw [if_pos c, if_neg (by omega), if_pos (by omega), c]
  · rw [if_neg c]
    by_cases d : j = 0
    · rw [if_pos d, if_pos d]
    · rw [if_neg d, if_neg d]
      by_cases e : 6 + 4 * q ≤ j ∧ j < 6 + k
      · rw [if_pos e, if_pos (by omega)]
      · rw [if_neg e, if_neg (by omega)]
theorem d1_at {k : Nat} : d1S σ q k (6 + k + 4) = σ (6 + k + 4) := by unfold d1S; rw [if_neg (by omega), if_neg (by omega)]
theorem d2_0 : ∀ j, d1S σ q (4 * (σ 0 - 1)) j = d2S σ q 0 j := fun j => by
  unfold d1S d2S
  by_cases c : j = 0
  · rw [if_pos c, if_pos c]
  · rw [if_neg c, if_neg c, if_neg (show ¬ (6 + 4 * (σ 0 - 1) ≤ j ∧ j < 6 + 4 * (σ 0 - 1) + 0) by omega)]
theorem d2_s {k : Nat} : ∀ j, nup (d2S σ q k) (6 + 4 * (σ 0 - 1) + k) 0 j = d2S σ q (k + 1) j := fun j => by
  unfold nup d2S
  by_cases c : j = 6 + 4 * (σ 0 - 1) + k
  · rw [if_pos c, if_neg (by omega), if_pos (by omega)]
  · rw [if_neg c]
    by_cases d : j = 0
    · rw [if_pos d, if_pos d]
    · rw [if_neg d, if_neg d]
      by_cases e : 6 + 4 * (σ 0 - 1) ≤ j ∧ j < 6 + 4 * (σ 0 - 1) + k
      · rw [if_pos e, if_pos (by omega)]
      · rw [if_neg e, if_neg (show ¬ (6 + 4 * (σ 0 - 1) ≤ j ∧ j < 6 + 4 * (σ 0 - 1) + (k + 1)) by omega)]
theorem d3_0 : ∀ j, d2S σ q 4 j = d3S σ q 0 0 j := fun j => by
  unfold d3S; rw [if_neg (by unfold d3Q; omega)]
theorem d3_s {a k : Nat} (hk : k < oK σ a) (h6 : oK σ a ≤ 6) : ∀ j, nup (d3S σ q a k) (95 + 7 * a + 1 + k) (tkN q (oM σ a k)) j = d3S σ q a (k + 1) j := fun j => by
  unfold nup d3S
  by_cases c : j = 95 + 7 * a + 1 + k
  · have e1 : (j - 95) / 7 = a := by omega
    rw [if_pos c, if_pos (by unfold d3Q; rw [e1]; unfold oK at hk; exact ⟨by omega, by omega, by omega, Or.inr ⟨rfl, by omega⟩⟩), c]
    unfold oM
    rw [show 96 + 7 * a + k = 95 + 7 * a + 1 + k by omega]
  · rw [if_neg c]
    have : d3Q σ a k j ↔ d3Q σ a (k + 1) j := by
      unfold d3Q
      constructor
      · intro ⟨h1, h2, h3, h4⟩; exact ⟨h1, h2, h3, by omega⟩
      · intro ⟨h1, h2, h3, h4⟩; exact ⟨h1, h2, h3, by omega⟩
    by_cases e : d3Q σ a k j
    · rw [if_pos e, if_pos (this.mp e)]
    · rw [if_neg e, if_neg (fun h => e (this.mpr h))]
theorem d3_n {a : Nat} : ∀ j, d3S σ q a (oK σ a) j = d3S σ q (a + 1) 0 j := fun j => by
  unfold d3S
  have : d3Q σ a (oK σ a) j ↔ d3Q σ (a + 1) 0 j := by
    unfold d3Q
    constructor
    · intro ⟨h1, h2, h3, h4⟩; exact ⟨h1, h2, h3, by omega⟩
    · intro ⟨h1, h2, h3, h4⟩
      refine ⟨h1, h2, h3, ?_⟩
      rcases Nat.lt_or_ge ((j - 95) / 7) a with r | r
      · exact Or.inl r
      · have e : (j - 95) / 7 = a := by omega
        rw [e] at h3
        exact Or.inr ⟨e, h3⟩
  by_cases e : d3Q σ a (oK σ a) j
  · rw [if_pos e, if_pos (this.mp e)]
  · rw [if_neg e, if_neg (fun h => e (this.mpr h))]
theorem d3_end (hn : σ 0 ≤ 16) (hq : q < σ 0) : ∀ j, j < 130 → d3S σ q 5 0 j = drpS σ q j := fun j hj => by
  unfold d3S drpS
  by_cases c : j < 95
  · rw [if_neg (by unfold d3Q; omega)]
    unfold d2S
    by_cases d : j = 0
    · rw [if_pos d, if_pos d]
    · rw [if_neg d, if_neg d]
      by_cases e : j < 6
      · rw [if_neg (by omega), if_neg (by omega), if_pos e]
      · rw [if_neg e]
        by_cases f : j < 70
        · rw [if_pos f]
          by_cases x1 : j < 6 + 4 * q
          · rw [if_neg (by omega), if_neg (by omega), if_pos x1]
          · rw [if_neg x1]
            by_cases x2 : j < 6 + 4 * (σ 0 - 1)
            · rw [if_neg (by omega), if_pos (by omega), if_pos x2]
            · rw [if_neg x2]
              by_cases x3 : j < 6 + 4 * σ 0
              · rw [if_pos (by omega), if_pos x3]
              · rw [if_neg (by omega), if_neg (by omega), if_neg x3]
        · rw [if_neg f, if_neg (by omega), if_neg (by omega), if_pos c]
  · rw [if_neg (show ¬ j = 0 by omega), if_neg (show ¬ j < 6 by omega), if_neg (show ¬ j < 70 by omega), if_neg c]
    have e2 : d2S σ q 4 j = σ j := by unfold d2S; rw [if_neg (by omega), if_neg (by omega), if_neg (by omega)]
    rw [e2]
    by_cases d : (j - 95) % 7 = 0
    · rw [if_pos d, if_neg (by unfold d3Q; exact fun h => h.2.1 d)]
    · rw [if_neg d]
      by_cases e : (j - 96) % 7 < σ (95 + 7 * ((j - 95) / 7))
      · rw [if_pos e, if_pos (by unfold d3Q; exact ⟨by omega, d, e, Or.inl (by omega)⟩)]
      · rw [if_neg e, if_neg (by unfold d3Q; exact fun h => e h.2.2.1)]
end DR
section DI
variable {σ : Nat → Nat} {q : Nat}
theorem d3_lo {a k : Nat} (hn : σ 0 ≤ 16) (hq : q < σ 0) : ∀ j, j < 95 → d3S σ q a k j = drpS σ q j := fun j hj => by
  rw [← d3_end hn hq j (by omega)]
  unfold d3S
  rw [if_neg (by unfold d3Q; omega), if_neg (by unfold d3Q; omega)]
theorem d3_K {a k p : Nat} (hn : σ 0 ≤ 16) : oK (d3S σ q a k) p = oK σ p := by
  show d3S σ q a k (95 + 7 * p) = σ (95 + 7 * p)
  unfold d3S
  rw [if_neg (by unfold d3Q; omega)]
  unfold d2S
  rw [if_neg (by omega), if_neg (by omega), if_neg (by omega)]
theorem d3_hi {a k j : Nat} (hn : σ 0 ≤ 16) (hj : 95 ≤ j) (h : ¬ d3Q σ a k j) : d3S σ q a k j = σ j := by
  unfold d3S
  rw [if_neg h]
  unfold d2S
  rw [if_neg (by omega), if_neg (by omega), if_neg (by omega)]
theorem d3_M {a k : Nat} (hn : σ 0 ≤ 16) (hk : k < 6) : oM (d3S σ q a k) a k = oM σ a k := d3_hi hn (by omega) (by unfold d3Q; omega)
theorem d3_I (hI : Inv σ) (hq : q < σ 0) {a k : Nat} : Inv (d3S σ q a k) := by
  have hn := hI.n
  have h := drp_I hI hq
  have e : ∀ j, j < 95 → d3S σ q a k j = drpS σ q j := d3_lo hn hq
  refine ⟨by rw [e 0 (by omega)]; exact h.n, by rw [e 1 (by omega)]; exact h.rules, by rw [e 2 (by omega)]; exact h.least, by rw [e 3 (by omega)]; exact h.coarse, by rw [e 4 (by omega)]; exact h.diff, rowsI (fun j _ _ => e j (by omega)) (e 0 (by omega)) h, persI (fun j _ _ => e j (by omega)) h, fun p hp => ?_⟩
  rw [d3_K hn]
  refine ⟨hI.kept hp, fun i hi => ?_⟩
  have hm := hI.mask hp hi
  show d3S σ q a k (96 + 7 * p + i) < 65536
  by_cases c : d3Q σ a k (96 + 7 * p + i)
  · unfold d3S; rw [if_pos c]; exact tkN_lt hm
  · rw [d3_hi hn (by omega) c]; exact hm
theorem shl_n {y k : Nat} (hy : y < 65536) (hk : k < 16) : nI y <<< (nI k &&& 31) = nI (y <<< k) := by
  have hs : ∀ k, k < 16 → ((nI k &&& 31).toBitVec.smod 32).toNat = k := by decide
  have h1 : y * 2 ^ k ≤ 65535 * 2 ^ 15 := Nat.mul_le_mul (by omega) (Nat.pow_le_pow_right (by decide) (by omega))
  rw [pk_shlN _ k (hs k hk) (by omega), Nat.shiftLeft_eq]
end DI
abbrev rm_X9_drop : Room := { frames := 2, cells := 0, slots := 0, locals := 43 }
theorem k_X9_drop : Cal yX9_drop wsX9_drop rm_X9_drop cX9_drop 5 (some .int) 1 0 0 := ⟨⟨_, rfl⟩, rfl, rfl, by decide +kernel⟩
set_option maxHeartbeats 4000000 in
set_option maxRecDepth 100000 in
theorem m_X9_drop (l : Launch) (Γ : Gm) (sz : Nat) (a : Nat → Nat) (v : Nat → Int32) (hs : Int64) (g : Nat → Nat → Int32) (σ : Nat → Nat) (sc : Nat) (ss : Nat → Nat → Nat) (nb : Nat) (bb : Nat → Nat) (hX : MR σ sc ss nb bb v g) (ix : Int32) : MWi (S := WtM) l yX9_drop wsX9_drop rm_X9_drop Γ sz (wMd Γ a v hs g) [.ref (a 0), .int ix] (fun r u => MO (drC σ ix) r (nI (σ 0 - 1)) (MR (drpS σ ix.toNatClampNeg) (svC sc) (svS sc ss σ) nb bb u.1 u.2.2) (MR σ sc ss nb bb u.1 u.2.2) (u.1 0)) (fun u => (wMd Γ a u.1 u.2.1 u.2.2)) 0 0 := by
  refine mW (cc := cX9_drop) (maxL := 5) (ret := (some .int)) (own := RX9) (by decide) rfl rfl (Nat.le_of_ble_eq_true rfl) ?_
  intro p e s m args below meth c S hrt hlk hin hsz hK hP hD hA hS ls hl
  subst hsz
  generalize hAe : va_A (wMd Γ a v hs g) s.heap.size = A at hD hA hS ⊢
  obtain ⟨hx, hb, hml, hown, hts⟩ := id S
  obtain ⟨hM, hI, hc6, h1, h2, hBR, hSR⟩ := id hX
  have hn := hI.n
  have hl : lv_has ls 5 [(0, .ref (a 0)), (1, .int ix)] := hl
  have L_109 : ∀ (fuel : Nat), ∀ (sv1 : Nat → Int32) (q : Nat) (gg : Nat → Int32) (aa : Nat) (hip : ix = nI q) (n_10 : inI ix (nI 0) (nI (σ 0) - nI 1) = true) (hq0 : q < σ 0) (hSV : SR (svC sc) (svS sc ss σ) sv1) (hG : RepM (d3S σ q aa 0) gg) (haa : aa ≤ 5) (hfa : 5 - aa < fuel), ∀ (H : Heap) (locs : List Loc), gP Γ [(a 0, .inr (9, [.int (nI 0), .ref (a 1), .ref (a 2), .int (nI (svC sc)), .ref (a 3), .int (v 2), .int (v 3), .int (v 4), .ref (a 4), .int (v 5), .long hs])), (a 1, .inl (Γ.2.1, 130, .inl gg)), (a 2, .inl (Γ.2.1, 780, .inl sv1)), (a 3, .inl (Γ.2.1, 60, .inl (g 2))), (a 4, .inl (Γ.2.1, 88, .inl (g 3)))] H → va_D A [(a 0, .inr (9, [.int (nI 0), .ref (a 1), .ref (a 2), .int (nI (svC sc)), .ref (a 3), .int (v 2), .int (v 3), .int (v 4), .ref (a 4), .int (v 5), .long hs])), (a 1, .inl (Γ.2.1, 130, .inl gg)), (a 2, .inl (Γ.2.1, 780, .inl sv1)), (a 3, .inl (Γ.2.1, 60, .inl (g 2))), (a 4, .inl (Γ.2.1, 88, .inl (g 3)))] → va_S A s.heap H locs → ∀ ls : Array Slot, lv_has ls 5 [(0, .ref (a 0)), (1, .int (nI q)), (2, .int (nI aa))] → W p l e rm_X9_drop s m args below meth c H locs 0 0 (MQ below (va_Qi (S := WtM) (fun r u => MO (drC σ ix) r (nI (σ 0 - 1)) (MR (drpS σ ix.toNatClampNeg) (svC sc) (svS sc ss σ) nb bb u.1 u.2.2) (MR σ sc ss nb bb u.1 u.2.2) (u.1 0)) (fun u t9 => wd Γ A ((wMd Γ a u.1 u.2.1 u.2.2)) t9) A) args s 0 0 A) (F0 m 109 ls []) := by
    intro fuel
    induction fuel with
    | zero => intro sv1 q gg aa hip n_10 hq0 hSV hG haa hfa; exact absurd hfa (by omega)
    | succ fuel ih_109 =>
      intro sv1 q gg aa hip n_10 hq0 hSV hG haa hfa H locs hP hD hS ls hl
      have L_116 : ∀ (fuel : Nat), ∀ (gg : Nat → Int32) (k : Nat) (n_111 : ¬ 5 ≤ aa) (hG : RepM (d3S σ q aa k) gg) (hk : k ≤ oK σ aa) (hfk : oK σ aa - k < fuel), ∀ (H : Heap) (locs : List Loc), gP Γ [(a 0, .inr (9, [.int (nI 0), .ref (a 1), .ref (a 2), .int (nI (svC sc)), .ref (a 3), .int (v 2), .int (v 3), .int (v 4), .ref (a 4), .int (v 5), .long hs])), (a 1, .inl (Γ.2.1, 130, .inl gg)), (a 2, .inl (Γ.2.1, 780, .inl sv1)), (a 3, .inl (Γ.2.1, 60, .inl (g 2))), (a 4, .inl (Γ.2.1, 88, .inl (g 3)))] H → va_D A [(a 0, .inr (9, [.int (nI 0), .ref (a 1), .ref (a 2), .int (nI (svC sc)), .ref (a 3), .int (v 2), .int (v 3), .int (v 4), .ref (a 4), .int (v 5), .long hs])), (a 1, .inl (Γ.2.1, 130, .inl gg)), (a 2, .inl (Γ.2.1, 780, .inl sv1)), (a 3, .inl (Γ.2.1, 60, .inl (g 2))), (a 4, .inl (Γ.2.1, 88, .inl (g 3)))] → va_S A s.heap H locs → ∀ ls : Array Slot, lv_has ls 5 [(0, .ref (a 0)), (1, .int (nI q)), (2, .int (nI aa)), (3, .int (nI k))] → W p l e rm_X9_drop s m args below meth c H locs 0 0 (MQ below (va_Qi (S := WtM) (fun r u => MO (drC σ ix) r (nI (σ 0 - 1)) (MR (drpS σ ix.toNatClampNeg) (svC sc) (svS sc ss σ) nb bb u.1 u.2.2) (MR σ sc ss nb bb u.1 u.2.2) (u.1 0)) (fun u t9 => wd Γ A ((wMd Γ a u.1 u.2.1 u.2.2)) t9) A) args s 0 0 A) (F0 m 116 ls []) := by
        intro fuel
        induction fuel with
        | zero => intro gg k n_111 hG hk hfk; exact absurd hfk (by omega)
        | succ fuel ih_116 =>
          intro gg k n_111 hG hk hfk H locs hP hD hS ls hl
          refine lv_iload_n hx hb dX9_drop_116 rfl (lv_at hl 3 rfl) ?_
          refine lv_aload_n hx hb dX9_drop_117 rfl (lv_at hl 0 rfl) ?_
          refine lv_iload_n hx hb dX9_drop_118 rfl (lv_at hl 2 rfl) ?_
          refine cRi (As := [.int (nI aa)]) (rest := [.int (nI k)]) (m_X9_kept l Γ a (va_up (va_up v 0 (nI 0)) 1 (nI (svC sc))) hs (va_up (va_up g 0 gg) 1 sv1) (d3S σ q aa k) hG (d3_I hI hq0) aa (by omega)) S k_X9_kept gX9_drop_X9_kept rfl ⟨Nat.le_of_ble_eq_true rfl, Nat.le_of_ble_eq_true rfl⟩ hK hP [0, 1, 2, 3, 4] rfl 0 (ci := 9) rfl rfl rfl rfl hl.1 (Nat.le_of_ble_eq_true rfl) rfl dX9_drop_119 ⟨Nat.le_of_ble_eq_true rfl, Nat.le_of_ble_eq_true rfl⟩ (fun r hr => ?_)
          subst hr
          refine asi (z := nI (oK σ aa)) (congrArg nI (d3_K hn)) ?_
          have hk6 := hI.kept (p := aa) (by omega)
          refine lv_icmp_ge (tgt := 172) hx hb dX9_drop_122 (by decide) (fun c_122 => ?_) (fun c_122 => ?_)
          · have n_122 := (nI_leI (a := (oK σ aa)) (b := k) (by omega) (by omega)).mp c_122
            refine lv_iinc (v := nI (aa + 1)) (lv' := [(2, .int (nI (aa + 1))), (0, .ref (a 0)), (1, .int (nI q)), (3, .int (nI k))]) hx hb dX9_drop_172 hl (k := 2) rfl (nI_add _ _) (by decide) rfl (fun ls hl => ?_)
            refine lv_goto (tgt := 109) hx hb dX9_drop_175 (by decide) ?_
            exact ih_109 sv1 q gg (aa + 1) hip n_10 hq0 hSV (by rw [show k = oK σ aa from by omega] at hG; exact hG.cg (fun j _ => d3_n j)) (by omega) (by omega) _ _ hP hD hS ls (lv_sub hl [1, 2, 0] rfl)
          · have n_122 := (not_congr (nI_leI (a := (oK σ aa)) (b := k) (by omega) (by omega))).mp c_122
            refine lv_aload_n hx hb dX9_drop_125 rfl (lv_at hl 0 rfl) ?_
            refine lv_iload_n hx hb dX9_drop_126 rfl (lv_at hl 2 rfl) ?_
            refine lv_iload_n hx hb dX9_drop_127 rfl (lv_at hl 3 rfl) ?_
            refine cRi (As := [.int (nI aa), .int (nI k)]) (rest := []) (m_X9_keptAt l Γ a (va_up (va_up v 0 (nI 0)) 1 (nI (svC sc))) hs (va_up (va_up g 0 gg) 1 sv1) (d3S σ q aa k) hG (d3_I hI hq0) aa k (by omega)) S k_X9_keptAt gX9_drop_X9_keptAt rfl ⟨Nat.le_of_ble_eq_true rfl, Nat.le_of_ble_eq_true rfl⟩ hK hP [0, 1, 2, 3, 4] rfl 0 (ci := 9) rfl rfl rfl rfl hl.1 (Nat.le_of_ble_eq_true rfl) rfl dX9_drop_128 ⟨Nat.le_of_ble_eq_true rfl, Nat.le_of_ble_eq_true rfl⟩ (fun r hr => ?_)
            subst hr
            refine asi (z := nI (oM σ aa k)) (congrArg nI (d3_M hn (by omega))) ?_
            have hmk := hI.mask (p := aa) (k := k) (by omega) (by omega)
            refine lv_istore (lv' := [(4, .int (nI (oM σ aa k))), (0, .ref (a 0)), (1, .int (nI q)), (2, .int (nI aa)), (3, .int (nI k))]) hx hb dX9_drop_131 hl (by decide) rfl (fun ls hl => ?_)
            refine lv_aload_n hx hb dX9_drop_133 rfl (lv_at hl 1 rfl) ?_
            refine va_get (D := Γ.1) (ci := 9) (v := .ref (a 1)) (C := RX9) (T := TX9) (N := 11) hx hb hts (by decide +kernel) hown hK hP 0 rfl rfl 1 (by decide) (hts (.fieldLink RX9 7 "RowVeilsModel" "s" "[I") (by decide +kernel)) (fun _ h9 => h9) rfl dX9_drop_134 ?_
            refine lv_bipush (v := nI 95) hx hb dX9_drop_137 (by decide) ?_
            refine lv_bipush (v := nI 7) hx hb dX9_drop_139 (by decide) ?_
            refine lv_iload_n hx hb dX9_drop_141 rfl (lv_at hl 3 rfl) ?_
            refine lv_imul hx hb dX9_drop_142 ?_
            refine asi (z := nI (7 * aa)) (pk_mul _ _) ?_
            refine lv_iadd hx hb dX9_drop_143 ?_
            refine asi (z := nI (95 + (7 * aa))) (nI_add _ _) ?_
            refine lv_iconst (v := nI 1) hx hb dX9_drop_144 (by decide) ?_
            refine lv_iadd hx hb dX9_drop_145 ?_
            refine asi (z := nI ((95 + (7 * aa)) + 1)) (nI_add _ _) ?_
            refine lv_iload_n hx hb dX9_drop_146 rfl (lv_at hl 4 rfl) ?_
            refine lv_iadd hx hb dX9_drop_147 ?_
            refine asi (z := nI (((95 + (7 * aa)) + 1) + k)) (nI_add _ _) ?_
            refine lv_iload hx hb dX9_drop_148 (lv_at hl 0 rfl) ?_
            refine lv_iconst (v := nI 1) hx hb dX9_drop_150 (by decide) ?_
            refine lv_iload_n hx hb dX9_drop_151 rfl (lv_at hl 2 rfl) ?_
            refine lv_ishl hx hb dX9_drop_152 ?_
            refine asi (z := nI (2 ^ q)) (sh1 (by omega)) ?_
            refine lv_iconst (v := nI 1) hx hb dX9_drop_153 (by decide) ?_
            refine lv_isub hx hb dX9_drop_154 ?_
            refine asi (z := nI (2 ^ q - 1)) (pk_sub Nat.one_le_two_pow) ?_
            refine lv_iand hx hb dX9_drop_155 ?_
            refine asi (z := nI (oM σ aa k &&& (2 ^ q - 1))) (nI_and _ _) ?_
            refine lv_iload hx hb dX9_drop_156 (lv_at hl 0 rfl) ?_
            refine lv_iload_n hx hb dX9_drop_158 rfl (lv_at hl 2 rfl) ?_
            refine lv_iconst (v := nI 1) hx hb dX9_drop_159 (by decide) ?_
            refine lv_iadd hx hb dX9_drop_160 ?_
            refine asi (z := nI (q + 1)) (nI_add _ _) ?_
            refine lv_ishr hx hb dX9_drop_161 ?_
            refine asi (z := nI (oM σ aa k >>> (q + 1))) (shr_n (by omega) (by omega)) ?_
            refine lv_iload_n hx hb dX9_drop_162 rfl (lv_at hl 2 rfl) ?_
            refine lv_ishl hx hb dX9_drop_163 ?_
            refine asi (z := nI ((oM σ aa k >>> (q + 1)) <<< q)) (shl_n (Nat.lt_of_le_of_lt (by rw [Nat.shiftRight_eq_div_pow]; exact Nat.div_le_self _ _) hmk) (by omega)) ?_
            refine lv_ior hx hb dX9_drop_164 ?_
            refine asi (z := nI (tkN q (oM σ aa k))) (nI_or _ _) ?_
            refine va_iast hx hb hK hP hD hS 1 0 rfl rfl (vp_in_nI (by omega) (by omega)) dX9_drop_165 (fun H locs hP hD hS => ?_)
            have ec : (nI (((95 + (7 * aa)) + 1) + k)).toNatClampNeg = (((95 + (7 * aa)) + 1) + k) := nI_clamp (by omega)
            rw [ec] at hP hD
            clear ec
            have hP : gP Γ [(a 0, .inr (9, [.int (nI 0), .ref (a 1), .ref (a 2), .int (nI (svC sc)), .ref (a 3), .int (v 2), .int (v 3), .int (v 4), .ref (a 4), .int (v 5), .long hs])), (a 1, .inl (Γ.2.1, 130, .inl (upd gg (((95 + (7 * aa)) + 1) + k) (nI (tkN q (oM σ aa k)))))), (a 2, .inl (Γ.2.1, 780, .inl sv1)), (a 3, .inl (Γ.2.1, 60, .inl (g 2))), (a 4, .inl (Γ.2.1, 88, .inl (g 3)))] H := hP
            have hD : va_D A [(a 0, .inr (9, [.int (nI 0), .ref (a 1), .ref (a 2), .int (nI (svC sc)), .ref (a 3), .int (v 2), .int (v 3), .int (v 4), .ref (a 4), .int (v 5), .long hs])), (a 1, .inl (Γ.2.1, 130, .inl (upd gg (((95 + (7 * aa)) + 1) + k) (nI (tkN q (oM σ aa k)))))), (a 2, .inl (Γ.2.1, 780, .inl sv1)), (a 3, .inl (Γ.2.1, 60, .inl (g 2))), (a 4, .inl (Γ.2.1, 88, .inl (g 3)))] := hD
            refine lv_iinc (v := nI (k + 1)) (lv' := [(3, .int (nI (k + 1))), (4, .int (nI (oM σ aa k))), (0, .ref (a 0)), (1, .int (nI q)), (2, .int (nI aa))]) hx hb dX9_drop_166 hl (k := 4) rfl (nI_add _ _) (by decide) rfl (fun ls hl => ?_)
            refine lv_goto (tgt := 116) hx hb dX9_drop_169 (by decide) ?_
            exact ih_116 (upd gg (((95 + (7 * aa)) + 1) + k) (nI (tkN q (oM σ aa k)))) (k + 1) n_111 (hG.up.cg (fun j _ => d3_s (by omega) (hI.kept (by omega)) j)) (by omega) (by omega) _ _ hP hD hS ls (lv_sub hl [2, 3, 4, 0] rfl)
      refine lv_iload_n hx hb dX9_drop_109 rfl (lv_at hl 2 rfl) ?_
      refine lv_iconst (v := nI 5) hx hb dX9_drop_110 (by decide) ?_
      refine lv_icmp_ge (tgt := 178) hx hb dX9_drop_111 (by decide) (fun c_111 => ?_) (fun c_111 => ?_)
      · have n_111 := (nI_leI (a := 5) (b := aa) (by omega) (by omega)).mp c_111
        refine lv_aload_n hx hb dX9_drop_178 rfl (lv_at hl 0 rfl) ?_
        refine va_get (D := Γ.1) (ci := 9) (v := .ref (a 1)) (C := RX9) (T := TX9) (N := 11) hx hb hts (by decide +kernel) hown hK hP 0 rfl rfl 1 (by decide) (hts (.fieldLink RX9 7 "RowVeilsModel" "s" "[I") (by decide +kernel)) (fun _ h9 => h9) rfl dX9_drop_179 ?_
        refine lv_iconst (v := nI 0) hx hb dX9_drop_182 (by decide) ?_
        refine va_iald hx hb hK hP 1 0 rfl rfl (vp_in_nI (by omega) (by omega)) dX9_drop_183 ?_
        refine asi (z := nI (σ 0 - 1)) ((congrArg _ (nI_clamp (by omega))).trans ((hG 0 (by decide)).trans (congrArg nI (d3_lo hn hq0 0 (by decide))))) ?_
        exact W.iret (v := nI (σ 0 - 1)) hx hb hrt (fun t9 ht9 hW9 => ⟨⟨_, (va_up (va_up v 0 (nI 0)) 1 (nI (svC sc)), hs, va_up (va_up g 0 gg) 1 sv1), rfl, MO.ok (by unfold drC; rw [n_10]; rfl) rfl rfl (by rw [hip, nI_clamp (by omega)]; exact (MR.sv ((by rw [show aa = 5 from by omega] at hG; exact hG.cg (fun j hj => d3_end hn hq0 j hj) : RepM (drpS σ q) gg)) (drp_I hI hq0) rfl h2 hBR hSV)), wd_end hK hP hD [0, 1, 2, 3, 4] (by decide) rfl t9 ht9 hW9⟩, hS.F ht9⟩) hS.2.2 dX9_drop_184 hlk
      · have n_111 := (not_congr (nI_leI (a := 5) (b := aa) (by omega) (by omega))).mp c_111
        refine lv_iconst (v := nI 0) hx hb dX9_drop_114 (by decide) ?_
        refine lv_istore_n (lv' := [(3, .int (nI 0)), (0, .ref (a 0)), (1, .int (nI q)), (2, .int (nI aa))]) hx hb dX9_drop_115 rfl hl (by decide) rfl (fun ls hl => ?_)
        exact L_116 (oK σ aa + 1) gg 0 n_111 hG (by omega) (by omega) _ _ hP hD hS ls (lv_sub hl [1, 2, 3, 0] rfl)
  have L_77 : ∀ (fuel : Nat), ∀ (sv1 : Nat → Int32) (q : Nat) (gg : Nat → Int32) (k : Nat) (hip : ix = nI q) (n_10 : inI ix (nI 0) (nI (σ 0) - nI 1) = true) (hq0 : q < σ 0) (hSV : SR (svC sc) (svS sc ss σ) sv1) (hG : RepM (d2S σ q k) gg) (hk : k ≤ 4) (hfk : 4 - k < fuel), ∀ (H : Heap) (locs : List Loc), gP Γ [(a 0, .inr (9, [.int (nI 0), .ref (a 1), .ref (a 2), .int (nI (svC sc)), .ref (a 3), .int (v 2), .int (v 3), .int (v 4), .ref (a 4), .int (v 5), .long hs])), (a 1, .inl (Γ.2.1, 130, .inl gg)), (a 2, .inl (Γ.2.1, 780, .inl sv1)), (a 3, .inl (Γ.2.1, 60, .inl (g 2))), (a 4, .inl (Γ.2.1, 88, .inl (g 3)))] H → va_D A [(a 0, .inr (9, [.int (nI 0), .ref (a 1), .ref (a 2), .int (nI (svC sc)), .ref (a 3), .int (v 2), .int (v 3), .int (v 4), .ref (a 4), .int (v 5), .long hs])), (a 1, .inl (Γ.2.1, 130, .inl gg)), (a 2, .inl (Γ.2.1, 780, .inl sv1)), (a 3, .inl (Γ.2.1, 60, .inl (g 2))), (a 4, .inl (Γ.2.1, 88, .inl (g 3)))] → va_S A s.heap H locs → ∀ ls : Array Slot, lv_has ls 5 [(0, .ref (a 0)), (1, .int (nI q)), (2, .int (nI k))] → W p l e rm_X9_drop s m args below meth c H locs 0 0 (MQ below (va_Qi (S := WtM) (fun r u => MO (drC σ ix) r (nI (σ 0 - 1)) (MR (drpS σ ix.toNatClampNeg) (svC sc) (svS sc ss σ) nb bb u.1 u.2.2) (MR σ sc ss nb bb u.1 u.2.2) (u.1 0)) (fun u t9 => wd Γ A ((wMd Γ a u.1 u.2.1 u.2.2)) t9) A) args s 0 0 A) (F0 m 77 ls []) := by
    intro fuel
    induction fuel with
    | zero => intro sv1 q gg k hip n_10 hq0 hSV hG hk hfk; exact absurd hfk (by omega)
    | succ fuel ih_77 =>
      intro sv1 q gg k hip n_10 hq0 hSV hG hk hfk H locs hP hD hS ls hl
      refine lv_iload_n hx hb dX9_drop_77 rfl (lv_at hl 2 rfl) ?_
      refine lv_iconst (v := nI 4) hx hb dX9_drop_78 (by decide) ?_
      refine lv_icmp_ge (tgt := 107) hx hb dX9_drop_79 (by decide) (fun c_79 => ?_) (fun c_79 => ?_)
      · have n_79 := (nI_leI (a := 4) (b := k) (by omega) (by omega)).mp c_79
        refine lv_iconst (v := nI 0) hx hb dX9_drop_107 (by decide) ?_
        refine lv_istore_n (lv' := [(2, .int (nI 0)), (0, .ref (a 0)), (1, .int (nI q))]) hx hb dX9_drop_108 rfl hl (by decide) rfl (fun ls hl => ?_)
        exact L_109 6 sv1 q gg 0 hip n_10 hq0 hSV (by rw [show k = 4 from by omega] at hG; exact hG.cg (fun j _ => d3_0 j)) (by omega) (by omega) _ _ hP hD hS ls (lv_sub hl [1, 2, 0] rfl)
      · have n_79 := (not_congr (nI_leI (a := 4) (b := k) (by omega) (by omega))).mp c_79
        refine lv_aload_n hx hb dX9_drop_82 rfl (lv_at hl 0 rfl) ?_
        refine va_get (D := Γ.1) (ci := 9) (v := .ref (a 1)) (C := RX9) (T := TX9) (N := 11) hx hb hts (by decide +kernel) hown hK hP 0 rfl rfl 1 (by decide) (hts (.fieldLink RX9 7 "RowVeilsModel" "s" "[I") (by decide +kernel)) (fun _ h9 => h9) rfl dX9_drop_83 ?_
        refine lv_bipush (v := nI 6) hx hb dX9_drop_86 (by decide) ?_
        refine lv_iconst (v := nI 4) hx hb dX9_drop_88 (by decide) ?_
        refine lv_aload_n hx hb dX9_drop_89 rfl (lv_at hl 0 rfl) ?_
        refine va_get (D := Γ.1) (ci := 9) (v := .ref (a 1)) (C := RX9) (T := TX9) (N := 11) hx hb hts (by decide +kernel) hown hK hP 0 rfl rfl 1 (by decide) (hts (.fieldLink RX9 7 "RowVeilsModel" "s" "[I") (by decide +kernel)) (fun _ h9 => h9) rfl dX9_drop_90 ?_
        refine lv_iconst (v := nI 0) hx hb dX9_drop_93 (by decide) ?_
        refine va_iald hx hb hK hP 1 0 rfl rfl (vp_in_nI (by omega) (by omega)) dX9_drop_94 ?_
        refine asi (z := nI (σ 0 - 1)) ((congrArg _ (nI_clamp (by omega))).trans (hG 0 (by decide))) ?_
        refine lv_imul hx hb dX9_drop_95 ?_
        refine asi (z := nI (4 * (σ 0 - 1))) (pk_mul _ _) ?_
        refine lv_iadd hx hb dX9_drop_96 ?_
        refine asi (z := nI (6 + (4 * (σ 0 - 1)))) (nI_add _ _) ?_
        refine lv_iload_n hx hb dX9_drop_97 rfl (lv_at hl 2 rfl) ?_
        refine lv_iadd hx hb dX9_drop_98 ?_
        refine asi (z := nI ((6 + (4 * (σ 0 - 1))) + k)) (nI_add _ _) ?_
        refine lv_iconst (v := nI 0) hx hb dX9_drop_99 (by decide) ?_
        refine va_iast hx hb hK hP hD hS 1 0 rfl rfl (vp_in_nI (by omega) (by omega)) dX9_drop_100 (fun H locs hP hD hS => ?_)
        have ec : (nI ((6 + (4 * (σ 0 - 1))) + k)).toNatClampNeg = ((6 + (4 * (σ 0 - 1))) + k) := nI_clamp (by omega)
        rw [ec] at hP hD
        clear ec
        have hP : gP Γ [(a 0, .inr (9, [.int (nI 0), .ref (a 1), .ref (a 2), .int (nI (svC sc)), .ref (a 3), .int (v 2), .int (v 3), .int (v 4), .ref (a 4), .int (v 5), .long hs])), (a 1, .inl (Γ.2.1, 130, .inl (upd gg ((6 + (4 * (σ 0 - 1))) + k) (nI 0)))), (a 2, .inl (Γ.2.1, 780, .inl sv1)), (a 3, .inl (Γ.2.1, 60, .inl (g 2))), (a 4, .inl (Γ.2.1, 88, .inl (g 3)))] H := hP
        have hD : va_D A [(a 0, .inr (9, [.int (nI 0), .ref (a 1), .ref (a 2), .int (nI (svC sc)), .ref (a 3), .int (v 2), .int (v 3), .int (v 4), .ref (a 4), .int (v 5), .long hs])), (a 1, .inl (Γ.2.1, 130, .inl (upd gg ((6 + (4 * (σ 0 - 1))) + k) (nI 0)))), (a 2, .inl (Γ.2.1, 780, .inl sv1)), (a 3, .inl (Γ.2.1, 60, .inl (g 2))), (a 4, .inl (Γ.2.1, 88, .inl (g 3)))] := hD
        refine lv_iinc (v := nI (k + 1)) (lv' := [(2, .int (nI (k + 1))), (0, .ref (a 0)), (1, .int (nI q))]) hx hb dX9_drop_101 hl (k := 2) rfl (nI_add _ _) (by decide) rfl (fun ls hl => ?_)
        refine lv_goto (tgt := 77) hx hb dX9_drop_104 (by decide) ?_
        exact ih_77 sv1 q (upd gg ((6 + (4 * (σ 0 - 1))) + k) (nI 0)) (k + 1) hip n_10 hq0 hSV (hG.up.cg (fun j _ => d2_s j)) (by omega) (by omega) _ _ hP hD hS ls (lv_sub hl [1, 2, 0] rfl)
  have L_37 : ∀ (fuel : Nat), ∀ (sv1 : Nat → Int32) (q : Nat) (gg : Nat → Int32) (k : Nat) (hip : ix = nI q) (n_10 : inI ix (nI 0) (nI (σ 0) - nI 1) = true) (hq0 : q < σ 0) (hSV : SR (svC sc) (svS sc ss σ) sv1) (hG : RepM (d1S σ q k) gg) (hk4 : 4 * q ≤ k) (hk : k ≤ 4 * (σ 0 - 1)) (hfk : 4 * (σ 0 - 1) - k < fuel), ∀ (H : Heap) (locs : List Loc), gP Γ [(a 0, .inr (9, [.int (nI 0), .ref (a 1), .ref (a 2), .int (nI (svC sc)), .ref (a 3), .int (v 2), .int (v 3), .int (v 4), .ref (a 4), .int (v 5), .long hs])), (a 1, .inl (Γ.2.1, 130, .inl gg)), (a 2, .inl (Γ.2.1, 780, .inl sv1)), (a 3, .inl (Γ.2.1, 60, .inl (g 2))), (a 4, .inl (Γ.2.1, 88, .inl (g 3)))] H → va_D A [(a 0, .inr (9, [.int (nI 0), .ref (a 1), .ref (a 2), .int (nI (svC sc)), .ref (a 3), .int (v 2), .int (v 3), .int (v 4), .ref (a 4), .int (v 5), .long hs])), (a 1, .inl (Γ.2.1, 130, .inl gg)), (a 2, .inl (Γ.2.1, 780, .inl sv1)), (a 3, .inl (Γ.2.1, 60, .inl (g 2))), (a 4, .inl (Γ.2.1, 88, .inl (g 3)))] → va_S A s.heap H locs → ∀ ls : Array Slot, lv_has ls 5 [(0, .ref (a 0)), (1, .int (nI q)), (2, .int (nI k))] → W p l e rm_X9_drop s m args below meth c H locs 0 0 (MQ below (va_Qi (S := WtM) (fun r u => MO (drC σ ix) r (nI (σ 0 - 1)) (MR (drpS σ ix.toNatClampNeg) (svC sc) (svS sc ss σ) nb bb u.1 u.2.2) (MR σ sc ss nb bb u.1 u.2.2) (u.1 0)) (fun u t9 => wd Γ A ((wMd Γ a u.1 u.2.1 u.2.2)) t9) A) args s 0 0 A) (F0 m 37 ls []) := by
    intro fuel
    induction fuel with
    | zero => intro sv1 q gg k hip n_10 hq0 hSV hG hk4 hk hfk; exact absurd hfk (by omega)
    | succ fuel ih_37 =>
      intro sv1 q gg k hip n_10 hq0 hSV hG hk4 hk hfk H locs hP hD hS ls hl
      refine lv_iload_n hx hb dX9_drop_37 rfl (lv_at hl 2 rfl) ?_
      refine lv_iconst (v := nI 4) hx hb dX9_drop_38 (by decide) ?_
      refine lv_aload_n hx hb dX9_drop_39 rfl (lv_at hl 0 rfl) ?_
      refine va_get (D := Γ.1) (ci := 9) (v := .ref (a 1)) (C := RX9) (T := TX9) (N := 11) hx hb hts (by decide +kernel) hown hK hP 0 rfl rfl 1 (by decide) (hts (.fieldLink RX9 7 "RowVeilsModel" "s" "[I") (by decide +kernel)) (fun _ h9 => h9) rfl dX9_drop_40 ?_
      refine lv_iconst (v := nI 0) hx hb dX9_drop_43 (by decide) ?_
      refine va_iald hx hb hK hP 1 0 rfl rfl (vp_in_nI (by omega) (by omega)) dX9_drop_44 ?_
      refine asi (z := nI (σ 0 - 1)) ((congrArg _ (nI_clamp (by omega))).trans (hG 0 (by decide))) ?_
      refine lv_imul hx hb dX9_drop_45 ?_
      refine asi (z := nI (4 * (σ 0 - 1))) (pk_mul _ _) ?_
      refine lv_icmp_ge (tgt := 75) hx hb dX9_drop_46 (by decide) (fun c_46 => ?_) (fun c_46 => ?_)
      · have n_46 := (nI_leI (a := (4 * (σ 0 - 1))) (b := k) (by omega) (by omega)).mp c_46
        refine lv_iconst (v := nI 0) hx hb dX9_drop_75 (by decide) ?_
        refine lv_istore_n (lv' := [(2, .int (nI 0)), (0, .ref (a 0)), (1, .int (nI q))]) hx hb dX9_drop_76 rfl hl (by decide) rfl (fun ls hl => ?_)
        exact L_77 5 sv1 q gg 0 hip n_10 hq0 hSV (by rw [show k = 4 * (σ 0 - 1) from by omega] at hG; exact hG.cg (fun j _ => d2_0 j)) (by omega) (by omega) _ _ hP hD hS ls (lv_sub hl [1, 2, 0] rfl)
      · have n_46 := (not_congr (nI_leI (a := (4 * (σ 0 - 1))) (b := k) (by omega) (by omega))).mp c_46
        refine lv_aload_n hx hb dX9_drop_49 rfl (lv_at hl 0 rfl) ?_
        refine va_get (D := Γ.1) (ci := 9) (v := .ref (a 1)) (C := RX9) (T := TX9) (N := 11) hx hb hts (by decide +kernel) hown hK hP 0 rfl rfl 1 (by decide) (hts (.fieldLink RX9 7 "RowVeilsModel" "s" "[I") (by decide +kernel)) (fun _ h9 => h9) rfl dX9_drop_50 ?_
        refine lv_bipush (v := nI 6) hx hb dX9_drop_53 (by decide) ?_
        refine lv_iload_n hx hb dX9_drop_55 rfl (lv_at hl 2 rfl) ?_
        refine lv_iadd hx hb dX9_drop_56 ?_
        refine asi (z := nI (6 + k)) (nI_add _ _) ?_
        refine lv_aload_n hx hb dX9_drop_57 rfl (lv_at hl 0 rfl) ?_
        refine va_get (D := Γ.1) (ci := 9) (v := .ref (a 1)) (C := RX9) (T := TX9) (N := 11) hx hb hts (by decide +kernel) hown hK hP 0 rfl rfl 1 (by decide) (hts (.fieldLink RX9 7 "RowVeilsModel" "s" "[I") (by decide +kernel)) (fun _ h9 => h9) rfl dX9_drop_58 ?_
        refine lv_bipush (v := nI 6) hx hb dX9_drop_61 (by decide) ?_
        refine lv_iload_n hx hb dX9_drop_63 rfl (lv_at hl 2 rfl) ?_
        refine lv_iadd hx hb dX9_drop_64 ?_
        refine asi (z := nI (6 + k)) (nI_add _ _) ?_
        refine lv_iconst (v := nI 4) hx hb dX9_drop_65 (by decide) ?_
        refine lv_iadd hx hb dX9_drop_66 ?_
        refine asi (z := nI ((6 + k) + 4)) (nI_add _ _) ?_
        refine va_iald hx hb hK hP 1 0 rfl rfl (vp_in_nI (by omega) (by omega)) dX9_drop_67 ?_
        refine asi (z := nI (σ (6 + k + 4))) ((congrArg _ (nI_clamp (by omega))).trans ((hG _ (by omega)).trans (congrArg nI d1_at))) ?_
        refine va_iast hx hb hK hP hD hS 1 0 rfl rfl (vp_in_nI (by omega) (by omega)) dX9_drop_68 (fun H locs hP hD hS => ?_)
        have ec : (nI (6 + k)).toNatClampNeg = (6 + k) := nI_clamp (by omega)
        rw [ec] at hP hD
        clear ec
        have hP : gP Γ [(a 0, .inr (9, [.int (nI 0), .ref (a 1), .ref (a 2), .int (nI (svC sc)), .ref (a 3), .int (v 2), .int (v 3), .int (v 4), .ref (a 4), .int (v 5), .long hs])), (a 1, .inl (Γ.2.1, 130, .inl (upd gg (6 + k) (nI (σ (6 + k + 4)))))), (a 2, .inl (Γ.2.1, 780, .inl sv1)), (a 3, .inl (Γ.2.1, 60, .inl (g 2))), (a 4, .inl (Γ.2.1, 88, .inl (g 3)))] H := hP
        have hD : va_D A [(a 0, .inr (9, [.int (nI 0), .ref (a 1), .ref (a 2), .int (nI (svC sc)), .ref (a 3), .int (v 2), .int (v 3), .int (v 4), .ref (a 4), .int (v 5), .long hs])), (a 1, .inl (Γ.2.1, 130, .inl (upd gg (6 + k) (nI (σ (6 + k + 4)))))), (a 2, .inl (Γ.2.1, 780, .inl sv1)), (a 3, .inl (Γ.2.1, 60, .inl (g 2))), (a 4, .inl (Γ.2.1, 88, .inl (g 3)))] := hD
        refine lv_iinc (v := nI (k + 1)) (lv' := [(2, .int (nI (k + 1))), (0, .ref (a 0)), (1, .int (nI q))]) hx hb dX9_drop_69 hl (k := 2) rfl (nI_add _ _) (by decide) rfl (fun ls hl => ?_)
        refine lv_goto (tgt := 37) hx hb dX9_drop_72 (by decide) ?_
        exact ih_37 sv1 q (upd gg (6 + k) (nI (σ (6 + k + 4)))) (k + 1) hip n_10 hq0 hSV (hG.up.cg (fun j _ => d1_s hk4 j)) (by omega) (by omega) (by omega) _ _ hP hD hS ls (lv_sub hl [1, 2, 0] rfl)
  have hH : s.heap = s.heap := rfl
  refine lv_aload_n hx hb dX9_drop_0 rfl (lv_at hl 0 rfl) ?_
  refine lv_iconst (v := nI 0) hx hb dX9_drop_1 (by decide) ?_
  refine va_put (D := Γ.1) (ci := 9) (v := .int (nI 0)) (ty := .int) (C := RX9) (T := TX9) (N := 11) hx hb hts (by decide +kernel) tyX9 tyX9_ok nmX9 hown hK hP hD hS 0 rfl rfl 0 (by decide) (hts (.fieldLink RX9 22 "RowVeilsModel" "thrown" "I") (by decide +kernel)) (fun _ h9 => h9) rfl (by decide +kernel) rfl rfl (Nat.le_of_ble_eq_true rfl) dX9_drop_2 (fun H locs hP hD hS => ?_)
  have hP : gP Γ [(a 0, .inr (9, [.int (nI 0), .ref (a 1), .ref (a 2), .int (v 1), .ref (a 3), .int (v 2), .int (v 3), .int (v 4), .ref (a 4), .int (v 5), .long hs])), (a 1, .inl (Γ.2.1, 130, .inl (g 0))), (a 2, .inl (Γ.2.1, 780, .inl (g 1))), (a 3, .inl (Γ.2.1, 60, .inl (g 2))), (a 4, .inl (Γ.2.1, 88, .inl (g 3)))] H := hP
  have hD : va_D A [(a 0, .inr (9, [.int (nI 0), .ref (a 1), .ref (a 2), .int (v 1), .ref (a 3), .int (v 2), .int (v 3), .int (v 4), .ref (a 4), .int (v 5), .long hs])), (a 1, .inl (Γ.2.1, 130, .inl (g 0))), (a 2, .inl (Γ.2.1, 780, .inl (g 1))), (a 3, .inl (Γ.2.1, 60, .inl (g 2))), (a 4, .inl (Γ.2.1, 88, .inl (g 3)))] := hD
  refine lv_aload_n hx hb dX9_drop_5 rfl (lv_at hl 0 rfl) ?_
  refine lv_iload_n hx hb dX9_drop_6 rfl (lv_at hl 1 rfl) ?_
  refine cRi (As := [.int ix]) (rest := []) (m_X9_isRow l Γ a (va_up v 0 (nI 0)) hs g σ hM hI ix) S k_X9_isRow gX9_drop_X9_isRow rfl ⟨Nat.le_of_ble_eq_true rfl, Nat.le_of_ble_eq_true rfl⟩ hK hP [0, 1, 2, 3, 4] rfl 0 (ci := 9) rfl rfl rfl rfl hl.1 (Nat.le_of_ble_eq_true rfl) rfl dX9_drop_7 ⟨Nat.le_of_ble_eq_true rfl, Nat.le_of_ble_eq_true rfl⟩ (fun r hr => ?_)
  subst hr
  refine lv_if_ne (tgt := 19) hx hb dX9_drop_10 (by decide) (fun c_10 => ?_) (fun c_10 => ?_)
  · have n_10 := bI_nz.mp c_10
    obtain ⟨q, hq0, rfl⟩ := in_row hI.n n_10
    refine lv_aload_n hx hb dX9_drop_19 rfl (lv_at hl 0 rfl) ?_
    refine cWv (As := []) (rest := []) (wr := []) (m_X9_saves l Γ _ a (va_up v 0 (nI 0)) hs g σ sc ss h1 hc6 hM hI hSR) S k_X9_saves gX9_drop_X9_saves rfl ⟨Nat.le_of_ble_eq_true rfl, Nat.le_of_ble_eq_true rfl⟩ hK hP hD hS hA [0, 1, 2, 3, 4] [] rfl rfl (by decide) (by decide) (by decide) 0 (ci := 9) rfl rfl rfl rfl hl.1 (Nat.le_of_ble_eq_true rfl) rfl dX9_drop_20 ⟨Nat.le_of_ble_eq_true rfl, Nat.le_of_ble_eq_true rfl⟩ (fun u H locs hr hP hD hS => ?_)
    obtain ⟨sv1, e_sv1⟩ : ∃ x, x = u := ⟨u, rfl⟩
    subst e_sv1
    have hP : gP Γ [(a 0, .inr (9, [.int (nI 0), .ref (a 1), .ref (a 2), .int (nI (svC sc)), .ref (a 3), .int (v 2), .int (v 3), .int (v 4), .ref (a 4), .int (v 5), .long hs])), (a 1, .inl (Γ.2.1, 130, .inl (g 0))), (a 2, .inl (Γ.2.1, 780, .inl sv1)), (a 3, .inl (Γ.2.1, 60, .inl (g 2))), (a 4, .inl (Γ.2.1, 88, .inl (g 3)))] H := hP
    have hD : va_D A [(a 0, .inr (9, [.int (nI 0), .ref (a 1), .ref (a 2), .int (nI (svC sc)), .ref (a 3), .int (v 2), .int (v 3), .int (v 4), .ref (a 4), .int (v 5), .long hs])), (a 1, .inl (Γ.2.1, 130, .inl (g 0))), (a 2, .inl (Γ.2.1, 780, .inl sv1)), (a 3, .inl (Γ.2.1, 60, .inl (g 2))), (a 4, .inl (Γ.2.1, 88, .inl (g 3)))] := hD
    have hSV := hr
    refine lv_aload_n hx hb dX9_drop_23 rfl (lv_at hl 0 rfl) ?_
    refine va_get (D := Γ.1) (ci := 9) (v := .ref (a 1)) (C := RX9) (T := TX9) (N := 11) hx hb hts (by decide +kernel) hown hK hP 0 rfl rfl 1 (by decide) (hts (.fieldLink RX9 7 "RowVeilsModel" "s" "[I") (by decide +kernel)) (fun _ h9 => h9) rfl dX9_drop_24 ?_
    refine lv_iconst (v := nI 0) hx hb dX9_drop_27 (by decide) ?_
    refine lv_dup2_11 hx hb dX9_drop_28 rfl rfl ?_
    refine va_iald hx hb hK hP 1 0 rfl rfl (vp_in_nI (by omega) (by omega)) dX9_drop_29 ?_
    refine asi (z := nI (σ 0)) ((congrArg _ (nI_clamp (by omega))).trans (hM _ (by omega))) ?_
    refine lv_iconst (v := nI 1) hx hb dX9_drop_30 (by decide) ?_
    refine lv_isub hx hb dX9_drop_31 ?_
    refine asi (z := nI (σ 0 - 1)) (pk_sub (by omega)) ?_
    refine va_iast hx hb hK hP hD hS 1 0 rfl rfl (vp_in_nI (by omega) (by omega)) dX9_drop_32 (fun H locs hP hD hS => ?_)
    have ec : (nI 0).toNatClampNeg = 0 := nI_clamp (by omega)
    rw [ec] at hP hD
    clear ec
    have hP : gP Γ [(a 0, .inr (9, [.int (nI 0), .ref (a 1), .ref (a 2), .int (nI (svC sc)), .ref (a 3), .int (v 2), .int (v 3), .int (v 4), .ref (a 4), .int (v 5), .long hs])), (a 1, .inl (Γ.2.1, 130, .inl (upd (g 0) 0 (nI (σ 0 - 1))))), (a 2, .inl (Γ.2.1, 780, .inl sv1)), (a 3, .inl (Γ.2.1, 60, .inl (g 2))), (a 4, .inl (Γ.2.1, 88, .inl (g 3)))] H := hP
    have hD : va_D A [(a 0, .inr (9, [.int (nI 0), .ref (a 1), .ref (a 2), .int (nI (svC sc)), .ref (a 3), .int (v 2), .int (v 3), .int (v 4), .ref (a 4), .int (v 5), .long hs])), (a 1, .inl (Γ.2.1, 130, .inl (upd (g 0) 0 (nI (σ 0 - 1))))), (a 2, .inl (Γ.2.1, 780, .inl sv1)), (a 3, .inl (Γ.2.1, 60, .inl (g 2))), (a 4, .inl (Γ.2.1, 88, .inl (g 3)))] := hD
    refine lv_iconst (v := nI 4) hx hb dX9_drop_33 (by decide) ?_
    refine lv_iload_n hx hb dX9_drop_34 rfl (lv_at hl 1 rfl) ?_
    refine lv_imul hx hb dX9_drop_35 ?_
    refine asi (z := nI (4 * q)) (pk_mul _ _) ?_
    refine lv_istore_n (lv' := [(2, .int (nI (4 * q))), (0, .ref (a 0)), (1, .int (nI q))]) hx hb dX9_drop_36 rfl hl (by decide) rfl (fun ls hl => ?_)
    exact L_37 (4 * (σ 0 - 1) + 1) sv1 q (upd (g 0) 0 (nI (σ 0 - 1))) (4 * q) rfl n_10 hq0 hSV (hM.up.cg (fun j _ => d1_0 j)) (by omega) (by omega) (by omega) _ _ hP hD hS ls (lv_sub hl [1, 2, 0] rfl)
  · have n_10 := bI_z.mp c_10
    refine lv_aload_n hx hb dX9_drop_13 rfl (lv_at hl 0 rfl) ?_
    refine lv_iconst (v := nI 1) hx hb dX9_drop_14 (by decide) ?_
    refine cWi (As := [.int (nI 1)]) (rest := []) (wr := []) (m_X9_fails l Γ _ a (va_up v 0 (nI 0)) hs g (nI 1)) S k_X9_fails gX9_drop_X9_fails rfl ⟨Nat.le_of_ble_eq_true rfl, Nat.le_of_ble_eq_true rfl⟩ hK hP hD hS hA [0, 1, 2, 3, 4] [] rfl rfl (by decide) (by decide) (by decide) 0 (ci := 9) rfl rfl rfl rfl hl.1 (Nat.le_of_ble_eq_true rfl) rfl dX9_drop_15 ⟨Nat.le_of_ble_eq_true rfl, Nat.le_of_ble_eq_true rfl⟩ (fun r u H locs hr hP hD hS => ?_)
    have hP : gP Γ [(a 0, .inr (9, [.int (nI 1), .ref (a 1), .ref (a 2), .int (v 1), .ref (a 3), .int (v 2), .int (v 3), .int (v 4), .ref (a 4), .int (v 5), .long hs])), (a 1, .inl (Γ.2.1, 130, .inl (g 0))), (a 2, .inl (Γ.2.1, 780, .inl (g 1))), (a 3, .inl (Γ.2.1, 60, .inl (g 2))), (a 4, .inl (Γ.2.1, 88, .inl (g 3)))] H := hP
    have hD : va_D A [(a 0, .inr (9, [.int (nI 1), .ref (a 1), .ref (a 2), .int (v 1), .ref (a 3), .int (v 2), .int (v 3), .int (v 4), .ref (a 4), .int (v 5), .long hs])), (a 1, .inl (Γ.2.1, 130, .inl (g 0))), (a 2, .inl (Γ.2.1, 780, .inl (g 1))), (a 3, .inl (Γ.2.1, 60, .inl (g 2))), (a 4, .inl (Γ.2.1, 88, .inl (g 3)))] := hD
    subst hr
    exact W.iret (v := nI 0) hx hb hrt (fun t9 ht9 hW9 => ⟨⟨_, (va_up v 0 (nI 1), hs, g), rfl, MO.bad (k := 0) (by unfold drC; first | (rw [n_10]; rfl)) rfl rfl (hX.th rfl rfl), wd_end hK hP hD [0, 1, 2, 3, 4] (by decide) rfl t9 ht9 hW9⟩, hS.F ht9⟩) hS.2.2 dX9_drop_18 hlk

