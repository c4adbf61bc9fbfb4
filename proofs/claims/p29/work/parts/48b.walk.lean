set_option maxHeartbeats 4000000 in
set_option maxRecDepth 100000 in
theorem lw_240 {p : Program} {l : Launch} {e : Env} {s : State} {m : MethodId} {below : List Frame} {meth : Method} {c : Code} {bs L : Nat} {xs : Nat → Int32} {Q : State → Prop} (C0 : lw_At p s m meth c bs L xs) (hfl : l.stackTraces = false) (hL : L ≤ 260) {Γ : Gm} (hK : gK Γ s) (hE : gE (fun q : Nat => s.heap.size ≤ q) s) {a : Nat → Nat} {b : Nat → Nat → Nat} {rf : Nat → Option Nat} (hrf : ∀ i, i < 6 → rf i = some (b i 0)) {f : Nat → Nat → Int32} {z : Nat → Int32} {F : Nat → Nat → Nat → Int32} {Z : Nat → Nat → Int32} {sc nb : Nat} {ss : Nat → Nat → Nat} {bb : Nat → Nat} {H : Heap} {locs : List Loc} {cells slots : Nat} {ls : Array Slot} {σ : Nat → Nat} {n t : Nat} {v w : Int32} (hn : n + 2 ≤ 1000) (hX : XR σ sc ss nb bb f z F Z) (hG : LZ (n + 2) sc σ ss) (hP : gP Γ (wXo Γ a b rf f z F Z) H) (hD : va_D (fun q : Nat => s.heap.size ≤ q) (wXo Γ a b rf f z F Z)) (hS : va_S (fun q : Nat => s.heap.size ≤ q) s.heap H locs) (hc : cells + 400 ≤ 709544) (hs : slots + 2400 ≤ 6973067) (hl : lv_has ls 13 [(0, .ref bs), (1, .ref (a 34)), (2, .int (nI t)), (3, .int v), (4, .int w)]) (KK : ∀ (H : Heap) (locs : List Loc) (ls : Array Slot) (cells1 slots1 : Nat), cells1 ≤ cells + 400 → slots1 ≤ slots + 2400 → SI Γ s a b rf (n + 2) H locs → lv_has ls 13 [(0, .ref bs), (1, .ref (a 34)), (2, .int (nI (t + 1)))] → W p l e room_1 s m #[Value.ref bs] below meth c H locs cells1 slots1 Q (F0 m 10 ls [])) : W p l e room_1 s m #[Value.ref bs] below meth c H locs cells slots Q (F0 m 240 ls []) := by
  obtain ⟨hx, hb, hrt, hml, hown, hts0, hX0, hbl, hlk, hgv⟩ := id C0
  have hts : ∀ w ∈ wsL_law, w.before #[Value.ref bs] s = true := fun w h => hts0 w (wsL_law_in w h)
  have S : CallFix p m c cL_law 13 s #[Value.ref bs] wsL_law RL := ⟨hx, hb, hml, hown, hts⟩
  have hA : ∀ q : Nat, s.heap.size ≤ q → (fun q : Nat => s.heap.size ≤ q) q := fun _ h => h
  have hbA : ¬ (fun q : Nat => s.heap.size ≤ q) bs := Nat.not_le.mpr hbl
  have hl : lv_has ls 13 [(0, .ref bs), (1, .ref (a 34)), (2, .int (nI t)), (3, .int v), (4, .int w)] := hl
  refine lv_aload_n hx hb dL_law_240 rfl (lv_at hl 1 rfl) ?_
  refine lv_iload hx hb dL_law_241 (lv_at hl 4 rfl) ?_
  refine lkSi (As := [.ref (a 34), .int w]) (rest := []) (v := nI 1) (m_L_holds l Γ _ hfl a b rf hrf f z F Z σ sc ss nb bb hX (n + 2) hn hG.1 w) (fun E h => h) (fun r h => h) hE S k_L_holds gL_law_L_holds ⟨(Nat.le_of_ble_eq_true rfl), (Nat.le_of_ble_eq_true rfl)⟩ hK hP hS hA rfl hl.1 (Nat.le_of_ble_eq_true rfl) rfl dL_law_243 ⟨by show _ ≤ 709544; omega, by show _ ≤ 6973067; omega⟩ (fun H locs hP hS1 hk9 => ?_)
  have hS := hS1
  refine lv_if_ne (tgt := 251) hx hb dL_law_246 (by decide) (fun c_246 => ?_) (fun c_246 => absurd c_246 (by decide))
  refine lv_iinc (v := nI (t + 1)) (lv' := [(2, .int (nI (t + 1))), (0, .ref bs), (1, .ref (a 34)), (3, .int v), (4, .int w)]) hx hb dL_law_251 hl (k := 2) rfl (nI_add _ _) (by decide) rfl (fun ls hl => ?_)
  refine lv_goto (tgt := 10) hx hb dL_law_254 (by decide) ?_
  exact KK _ _ _ _ _ (Nat.le_refl _) (Nat.le_refl _) ⟨f, z, F, Z, σ, sc, ss, nb, bb, hX, hG, hP, hD, hS⟩ (lv_sub hl [1, 2, 0] rfl)
set_option maxHeartbeats 4000000 in
set_option maxRecDepth 100000 in
theorem lw_181 {p : Program} {l : Launch} {e : Env} {s : State} {m : MethodId} {below : List Frame} {meth : Method} {c : Code} {bs L : Nat} {xs : Nat → Int32} {Q : State → Prop} (C0 : lw_At p s m meth c bs L xs) (hfl : l.stackTraces = false) (hL : L ≤ 260) {Γ : Gm} (hK : gK Γ s) (hE : gE (fun q : Nat => s.heap.size ≤ q) s) {a : Nat → Nat} {b : Nat → Nat → Nat} {rf : Nat → Option Nat} (hrf : ∀ i, i < 6 → rf i = some (b i 0)) {f : Nat → Nat → Int32} {z : Nat → Int32} {F : Nat → Nat → Nat → Int32} {Z : Nat → Nat → Int32} {sc nb : Nat} {ss : Nat → Nat → Nat} {bb : Nat → Nat} {H : Heap} {locs : List Loc} {cells slots : Nat} {ls : Array Slot} {σ τ : Nat → Nat} {B : Bool} {r : Int32} {n t : Nat} {v w : Int32} (hq : acQ σ v w = (B, r, τ)) (hA0 : AQ σ n (B, r, τ)) (hI : Inv σ) (hn : n + 2 ≤ 1000) (h5 : sc ≤ 5) (hG : LZ n sc σ ss) (hX : XR τ (cond B (svC sc) sc) (cond B (svS sc ss σ) ss) nb bb f z F Z) (hP : gP Γ (wXo Γ a b rf f z F Z) H) (hD : va_D (fun q : Nat => s.heap.size ≤ q) (wXo Γ a b rf f z F Z)) (hS : va_S (fun q : Nat => s.heap.size ≤ q) s.heap H locs) (hc : cells + 1300 ≤ 709544) (hs : slots + 7800 ≤ 6973067) (hl : lv_has ls 13 [(0, .ref bs), (1, .ref (a 34)), (2, .int (nI t)), (3, .int v), (4, .int w), (5, .int (nI sc)), (8, .long (lz_told σ)), (10, .int r), (11, .long (lz_told τ))]) (KK : ∀ (H : Heap) (locs : List Loc) (ls : Array Slot) (cells1 slots1 : Nat), cells1 ≤ cells + 1300 → slots1 ≤ slots + 7800 → SI Γ s a b rf (n + 2) H locs → lv_has ls 13 [(0, .ref bs), (1, .ref (a 34)), (2, .int (nI (t + 1)))] → W p l e room_1 s m #[Value.ref bs] below meth c H locs cells1 slots1 Q (F0 m 10 ls [])) : W p l e room_1 s m #[Value.ref bs] below meth c H locs cells slots Q (F0 m 181 ls []) := by
  obtain ⟨hx, hb, hrt, hml, hown, hts0, hX0, hbl, hlk, hgv⟩ := id C0
  have hts : ∀ w ∈ wsL_law, w.before #[Value.ref bs] s = true := fun w h => hts0 w (wsL_law_in w h)
  have S : CallFix p m c cL_law 13 s #[Value.ref bs] wsL_law RL := ⟨hx, hb, hml, hown, hts⟩
  have hA : ∀ q : Nat, s.heap.size ≤ q → (fun q : Nat => s.heap.size ≤ q) q := fun _ h => h
  have hbA : ¬ (fun q : Nat => s.heap.size ≤ q) bs := Nat.not_le.mpr hbl
  have hl : lv_has ls 13 [(0, .ref bs), (1, .ref (a 34)), (2, .int (nI t)), (3, .int v), (4, .int w), (5, .int (nI sc)), (8, .long (lz_told σ)), (10, .int r), (11, .long (lz_told τ))] := hl
  have hn2 := hn
  refine lv_iload hx hb dL_law_181 (lv_at hl 7 rfl) ?_
  refine lv_bipush (v := (-9)) hx hb dL_law_183 (by decide) ?_
  cases B with
  | false =>
    obtain ⟨e1, e2⟩ := ac_no hA0
    have hX : XR τ sc ss nb bb f z F Z := hX
    refine lv_icmp_le (tgt := 240) hx hb dL_law_185 (by decide) (fun c_185 => ?_) (fun c_185 => absurd (show r ≤ (-9 : Int32) by rw [e1]; decide) c_185)
    exact lw_240 C0 hfl hL hK hE hrf hn hX (by rw [e2]; exact hG.up (by omega)) hP hD hS (by omega) (by omega) (lv_sub hl [0, 1, 2, 3, 4] rfl) (fun H locs ls c1 s1 h1 h2 => KK H locs ls c1 s1 (by omega) (by omega))
  | true =>
    have e9 := ac_yes hA0
    have hX : XR τ (svC sc) (svS sc ss σ) nb bb f z F Z := hX
    have hG1 : LZ (n + 1) (svC sc) τ (svS sc ss σ) := hG.sv h5 hA0.1
    refine lv_icmp_le (tgt := 240) hx hb dL_law_185 (by decide) (fun c_185 => absurd c_185 e9) (fun c_185 => ?_)
    refine lv_iload_n hx hb dL_law_188 rfl (lv_at hl 3 rfl) ?_
    refine lv_bipush (v := nI 8) hx hb dL_law_189 (by decide) ?_
    refine lv_ishr hx hb dL_law_191 ?_
    refine lv_iconst (v := nI 1) hx hb dL_law_192 (by decide) ?_
    refine lv_iand hx hb dL_law_193 ?_
    refine lv_if_ne (tgt := 240) hx hb dL_law_194 (by decide) (fun c_194 => ?_) (fun c_194 => ?_)
    · exact lw_240 C0 hfl hL hK hE hrf hn hX (hG1.up (by omega)) hP hD hS (by omega) (by omega) (lv_sub hl [0, 1, 2, 3, 4] rfl) (fun H locs ls c1 s1 h1 h2 => KK H locs ls c1 s1 (by omega) (by omega))
    · have hsv := svC_5 h5
      refine lv_aload_n hx hb dL_law_197 rfl (lv_at hl 1 rfl) ?_
      refine acV (As := []) (rest := []) (m_X8_undo l Γ _ hfl a b rf hrf f z F Z τ (svC sc) (svS sc ss σ) nb bb hX) (fun E => exc0 (un0 (by omega))) hE S k_X8_undo gL_law_X8_undo rfl ⟨(Nat.le_of_ble_eq_true rfl), (Nat.le_of_ble_eq_true rfl)⟩ hK hP hD hS hA 0 (ci := 8) rfl rfl rfl rfl hl.1 (Nat.le_of_ble_eq_true rfl) rfl dL_law_198 ⟨by show _ ≤ 709544; omega, by show _ ≤ 6973067; omega⟩ (fun r8 u H locs hr hP hD hS => ?_)
      obtain ⟨f2, z2, F2, Z2⟩ := u
      obtain ⟨-, hr1, hX2⟩ := hr
      subst hr1
      have ek : svC sc - 1 = sc := by omega
      rw [ek, svS_5 h5] at hX2
      refine asi (z := nI sc) (by rw [ek]) ?_
      refine lv_iload hx hb dL_law_201 (lv_at hl 5 rfl) ?_
      refine lv_icmp_ne (tgt := 238) hx hb dL_law_203 (by decide) (fun c_203 => absurd rfl c_203) (fun c_203 => ?_)
      refine lv_aload_n hx hb dL_law_206 rfl (lv_at hl 1 rfl) ?_
      refine lkSl (As := [.ref (a 34)]) (rest := []) (v := lz_told σ) (m_L_told l Γ _ hfl a b rf hrf f2 z2 F2 Z2 σ sc (svS sc ss σ) nb bb hX2) (fun E h => h) (fun r h => h) hE S k_L_told gL_law_L_told ⟨(Nat.le_of_ble_eq_true rfl), (Nat.le_of_ble_eq_true rfl)⟩ hK hP hS hA rfl hl.1 (Nat.le_of_ble_eq_true rfl) rfl dL_law_207 ⟨by show _ ≤ 709544; omega, by show _ ≤ 6973067; omega⟩ (fun H locs hP hS1 hk9 => ?_)
      have hS := hS1
      refine lv_lload hx hb dL_law_210 (lv_at hl 6 rfl) ?_
      refine rLcmp hx hb dL_law_212 ?_
      refine lv_if_ne (tgt := 238) hx hb dL_law_213 (by decide) (fun c_213 => absurd rfl c_213) (fun c_213 => ?_)
      refine lv_aload_n hx hb dL_law_216 rfl (lv_at hl 1 rfl) ?_
      refine lv_iload_n hx hb dL_law_217 rfl (lv_at hl 3 rfl) ?_
      refine lv_iload hx hb dL_law_218 (lv_at hl 4 rfl) ?_
      refine acS (As := [.ref (a 34), .int v, .int w]) (rest := []) (m_L_act l Γ _ hfl a b rf hrf f2 z2 F2 Z2 σ sc (svS sc ss σ) nb bb hX2 v w) (fun E h => h) hE S k_L_act gL_law_L_act ⟨(Nat.le_of_ble_eq_true rfl), (Nat.le_of_ble_eq_true rfl)⟩ hK hP hD hS hA rfl hl.1 (Nat.le_of_ble_eq_true rfl) rfl dL_law_220 ⟨by show _ ≤ 709544; omega, by show _ ≤ 6973067; omega⟩ (fun r9 u H locs hr hP hD hS => ?_)
      obtain ⟨f3, z3, F3, Z3⟩ := u
      rw [hq] at hr
      obtain ⟨hr1, hX3⟩ := hr
      refine asi (z := r) hr1 ?_
      refine lv_iload hx hb dL_law_223 (lv_at hl 7 rfl) ?_
      refine lv_icmp_ne (tgt := 238) hx hb dL_law_225 (by decide) (fun c_225 => absurd rfl c_225) (fun c_225 => ?_)
      refine lv_aload_n hx hb dL_law_228 rfl (lv_at hl 1 rfl) ?_
      refine lkSl (As := [.ref (a 34)]) (rest := []) (v := lz_told τ) (m_L_told l Γ _ hfl a b rf hrf f3 z3 F3 Z3 τ (svC sc) (svS sc (svS sc ss σ) σ) nb bb hX3) (fun E h => h) (fun r h => h) hE S k_L_told gL_law_L_told ⟨(Nat.le_of_ble_eq_true rfl), (Nat.le_of_ble_eq_true rfl)⟩ hK hP hS hA rfl hl.1 (Nat.le_of_ble_eq_true rfl) rfl dL_law_229 ⟨by show _ ≤ 709544; omega, by show _ ≤ 6973067; omega⟩ (fun H locs hP hS1 hk9 => ?_)
      have hS := hS1
      refine lv_lload hx hb dL_law_232 (lv_at hl 8 rfl) ?_
      refine rLcmp hx hb dL_law_234 ?_
      refine lv_if_eq (tgt := 240) hx hb dL_law_235 (by decide) (fun c_235 => ?_) (fun c_235 => absurd rfl c_235)
      have hG2 : LZ (n + 2) (svC sc) τ (svS sc (svS sc ss σ) σ) := LZ.sv (n := n + 1) ((hG.un h5).up (Nat.le_succ n)) h5 (hA0.1.up (Nat.le_succ _))
      exact lw_240 C0 hfl hL hK hE hrf hn hX3 hG2 hP hD hS (by omega) (by omega) (lv_sub hl [0, 1, 2, 3, 4] rfl) (fun H locs ls c1 s1 h1 h2 => KK H locs ls c1 s1 (by omega) (by omega))
set_option maxHeartbeats 4000000 in
set_option maxRecDepth 100000 in
theorem lw_163 {p : Program} {l : Launch} {e : Env} {s : State} {m : MethodId} {below : List Frame} {meth : Method} {c : Code} {bs L : Nat} {xs : Nat → Int32} {Q : State → Prop} (C0 : lw_At p s m meth c bs L xs) (hfl : l.stackTraces = false) (hL : L ≤ 260) {Γ : Gm} (hK : gK Γ s) (hE : gE (fun q : Nat => s.heap.size ≤ q) s) {a : Nat → Nat} {b : Nat → Nat → Nat} {rf : Nat → Option Nat} (hrf : ∀ i, i < 6 → rf i = some (b i 0)) {f : Nat → Nat → Int32} {z : Nat → Int32} {F : Nat → Nat → Nat → Int32} {Z : Nat → Nat → Int32} {sc nb : Nat} {ss : Nat → Nat → Nat} {bb : Nat → Nat} {H : Heap} {locs : List Loc} {cells slots : Nat} {ls : Array Slot} {σ τ : Nat → Nat} {B : Bool} {r : Int32} {n t : Nat} {v w : Int32} (hq : acQ σ v w = (B, r, τ)) (hA0 : AQ σ n (B, r, τ)) (hI : Inv σ) (hn : n + 2 ≤ 1000) (h5 : sc ≤ 5) (hG : LZ n sc σ ss) (hX : XR τ (cond B (svC sc) sc) (cond B (svS sc ss σ) ss) nb bb f z F Z) (hP : gP Γ (wXo Γ a b rf f z F Z) H) (hD : va_D (fun q : Nat => s.heap.size ≤ q) (wXo Γ a b rf f z F Z)) (hS : va_S (fun q : Nat => s.heap.size ≤ q) s.heap H locs) (hc : cells + 1301 ≤ 709544) (hs : slots + 7806 ≤ 6973067) (hl : lv_has ls 13 [(0, .ref bs), (1, .ref (a 34)), (2, .int (nI t)), (3, .int v), (4, .int w), (5, .int (nI sc)), (6, .int (nI (σ 5))), (7, .int (bI (decide (σ 4 = 1)))), (8, .long (lz_told σ)), (10, .int r), (11, .long (lz_told τ))]) (KK : ∀ (H : Heap) (locs : List Loc) (ls : Array Slot) (cells1 slots1 : Nat), cells1 ≤ cells + 1301 → slots1 ≤ slots + 7806 → SI Γ s a b rf (n + 2) H locs → lv_has ls 13 [(0, .ref bs), (1, .ref (a 34)), (2, .int (nI (t + 1)))] → W p l e room_1 s m #[Value.ref bs] below meth c H locs cells1 slots1 Q (F0 m 10 ls [])) : W p l e room_1 s m #[Value.ref bs] below meth c H locs cells slots Q (F0 m 163 ls []) := by
  obtain ⟨hx, hb, hrt, hml, hown, hts0, hX0, hbl, hlk, hgv⟩ := id C0
  have hts : ∀ w ∈ wsL_law, w.before #[Value.ref bs] s = true := fun w h => hts0 w (wsL_law_in w h)
  have S : CallFix p m c cL_law 13 s #[Value.ref bs] wsL_law RL := ⟨hx, hb, hml, hown, hts⟩
  have hA : ∀ q : Nat, s.heap.size ≤ q → (fun q : Nat => s.heap.size ≤ q) q := fun _ h => h
  have hbA : ¬ (fun q : Nat => s.heap.size ≤ q) bs := Nat.not_le.mpr hbl
  have hl : lv_has ls 13 [(0, .ref bs), (1, .ref (a 34)), (2, .int (nI t)), (3, .int v), (4, .int w), (5, .int (nI sc)), (6, .int (nI (σ 5))), (7, .int (bI (decide (σ 4 = 1)))), (8, .long (lz_told σ)), (10, .int r), (11, .long (lz_told τ))] := hl
  refine lv_iload hx hb dL_law_163 (lv_at hl 7 rfl) ?_
  refine lv_if_eq (tgt := 181) hx hb dL_law_165 (by decide) (fun c_165 => ?_) (fun c_165 => ?_)
  · exact lw_181 C0 hfl hL hK hE hrf hq hA0 hI hn h5 hG hX hP hD hS (by omega) (by omega) (lv_sub hl [0, 1, 2, 3, 4, 5, 8, 9, 10] rfl) (fun H locs ls c1 s1 h1 h2 => KK H locs ls c1 s1 (by omega) (by omega))
  · have e4 : σ 4 = 1 := of_decide_eq_true (bI_nz.mp c_165)
    have e5 : τ 5 = σ 5 := hA0.2.2.2 e4
    refine lv_aload_n hx hb dL_law_168 rfl (lv_at hl 1 rfl) ?_
    refine lv_bipush (v := nI 7) hx hb dL_law_169 (by decide) ?_
    refine lkV (As := [.int (nI 7)]) (rest := []) (v := (nI (τ 5))) (m_X8_count l Γ _ hfl a b rf f z F Z τ hX.1 hX.2.1 (nI 7)) (fun E => exc0 (co0 (w := 7) (by decide))) (fun r h => vl_cnt (σ := τ) (z := z) (w := 7) (by decide) h) hE S k_X8_count gL_law_X8_count rfl ⟨(Nat.le_of_ble_eq_true rfl), (Nat.le_of_ble_eq_true rfl)⟩ hK hP hS hA 0 (ci := 8) rfl rfl rfl rfl hl.1 (Nat.le_of_ble_eq_true rfl) rfl dL_law_171 ⟨by show _ ≤ 709544; omega, by show _ ≤ 6973067; omega⟩ (fun H locs hP hS1 hk9 => ?_)
    have hS := hS1
    refine asi (z := nI (σ 5)) (by rw [e5]) ?_
    refine lv_iload hx hb dL_law_174 (lv_at hl 6 rfl) ?_
    refine lv_icmp_eq (tgt := 181) hx hb dL_law_176 (by decide) (fun c_176 => ?_) (fun c_176 => absurd rfl c_176)
    exact lw_181 C0 hfl hL hK hE hrf hq hA0 hI hn h5 hG hX hP hD hS (by omega) (by omega) (lv_sub hl [0, 1, 2, 3, 4, 5, 8, 9, 10] rfl) (fun H locs ls c1 s1 h1 h2 => KK H locs ls c1 s1 (by omega) (by omega))
set_option maxHeartbeats 4000000 in
set_option maxRecDepth 100000 in
theorem lw_66 {p : Program} {l : Launch} {e : Env} {s : State} {m : MethodId} {below : List Frame} {meth : Method} {c : Code} {bs L : Nat} {xs : Nat → Int32} {Q : State → Prop} (C0 : lw_At p s m meth c bs L xs) (hfl : l.stackTraces = false) (hL : L ≤ 260) {Γ : Gm} (hK : gK Γ s) (hE : gE (fun q : Nat => s.heap.size ≤ q) s) {a : Nat → Nat} {b : Nat → Nat → Nat} {rf : Nat → Option Nat} (hrf : ∀ i, i < 6 → rf i = some (b i 0)) {f : Nat → Nat → Int32} {z : Nat → Int32} {F : Nat → Nat → Nat → Int32} {Z : Nat → Nat → Int32} {sc nb : Nat} {ss : Nat → Nat → Nat} {bb : Nat → Nat} {H : Heap} {locs : List Loc} {cells slots : Nat} {ls : Array Slot} {σ : Nat → Nat} {n t : Nat} {v w : Int32} (hn : n + 2 ≤ 1000) (h5 : sc ≤ 5) (hG : LZ n sc σ ss) (hX : XR σ sc ss nb bb f z F Z) (hP : gP Γ (wXo Γ a b rf f z F Z) H) (hD : va_D (fun q : Nat => s.heap.size ≤ q) (wXo Γ a b rf f z F Z)) (hS : va_S (fun q : Nat => s.heap.size ≤ q) s.heap H locs) (hc : cells + 2120 ≤ 709544) (hs : slots + 12720 ≤ 6973067) (hl : lv_has ls 13 [(0, .ref bs), (1, .ref (a 34)), (2, .int (nI t)), (3, .int v), (4, .int w)]) (KK : ∀ (H : Heap) (locs : List Loc) (ls : Array Slot) (cells1 slots1 : Nat), cells1 ≤ cells + 2120 → slots1 ≤ slots + 12720 → SI Γ s a b rf (n + 2) H locs → lv_has ls 13 [(0, .ref bs), (1, .ref (a 34)), (2, .int (nI (t + 1)))] → W p l e room_1 s m #[Value.ref bs] below meth c H locs cells1 slots1 Q (F0 m 10 ls [])) : W p l e room_1 s m #[Value.ref bs] below meth c H locs cells slots Q (F0 m 66 ls []) := by
  obtain ⟨hx, hb, hrt, hml, hown, hts0, hX0, hbl, hlk, hgv⟩ := id C0
  have hts : ∀ w ∈ wsL_law, w.before #[Value.ref bs] s = true := fun w h => hts0 w (wsL_law_in w h)
  have S : CallFix p m c cL_law 13 s #[Value.ref bs] wsL_law RL := ⟨hx, hb, hml, hown, hts⟩
  have hA : ∀ q : Nat, s.heap.size ≤ q → (fun q : Nat => s.heap.size ≤ q) q := fun _ h => h
  have hbA : ¬ (fun q : Nat => s.heap.size ≤ q) bs := Nat.not_le.mpr hbl
  have hl : lv_has ls 13 [(0, .ref bs), (1, .ref (a 34)), (2, .int (nI t)), (3, .int v), (4, .int w)] := hl
  have hI := hX.2.1
  have h41 := hI.diff
  obtain ⟨q, hq⟩ : ∃ q, acQ σ v w = q := ⟨_, rfl⟩
  have hA0 := acQ_ok hI hG.1 v w
  rw [hq] at hA0
  obtain ⟨B, r, τ⟩ := q
  refine lv_aload_n hx hb dL_law_66 rfl (lv_at hl 1 rfl) ?_
  refine lv_bipush (v := nI 9) hx hb dL_law_67 (by decide) ?_
  refine lkV (As := [.int (nI 9)]) (rest := []) (v := (nI sc)) (m_X8_count l Γ _ hfl a b rf f z F Z σ hX.1 hX.2.1 (nI 9)) (fun E => exc0 (co0 (w := 9) (by decide))) (fun r h => (vl_c9 (σ := σ) (z := z) h).trans hX.2.2.2.1) hE S k_X8_count gL_law_X8_count rfl ⟨(Nat.le_of_ble_eq_true rfl), (Nat.le_of_ble_eq_true rfl)⟩ hK hP hS hA 0 (ci := 8) rfl rfl rfl rfl hl.1 (Nat.le_of_ble_eq_true rfl) rfl dL_law_69 ⟨by show _ ≤ 709544; omega, by show _ ≤ 6973067; omega⟩ (fun H locs hP hS1 hk9 => ?_)
  have hS := hS1
  refine lv_istore (lv' := [(5, .int (nI sc)), (0, .ref bs), (1, .ref (a 34)), (2, .int (nI t)), (3, .int v), (4, .int w)]) hx hb dL_law_72 hl (by decide) rfl (fun ls hl => ?_)
  refine lv_aload_n hx hb dL_law_74 rfl (lv_at hl 2 rfl) ?_
  refine lv_bipush (v := nI 7) hx hb dL_law_75 (by decide) ?_
  refine lkV (As := [.int (nI 7)]) (rest := []) (v := (nI (σ 5))) (m_X8_count l Γ _ hfl a b rf f z F Z σ hX.1 hX.2.1 (nI 7)) (fun E => exc0 (co0 (w := 7) (by decide))) (fun r h => vl_cnt (σ := σ) (z := z) (w := 7) (by decide) h) hE S k_X8_count gL_law_X8_count rfl ⟨(Nat.le_of_ble_eq_true rfl), (Nat.le_of_ble_eq_true rfl)⟩ hK hP hS hA 0 (ci := 8) rfl rfl rfl rfl hl.1 (Nat.le_of_ble_eq_true rfl) rfl dL_law_77 ⟨by show _ ≤ 709544; omega, by show _ ≤ 6973067; omega⟩ (fun H locs hP hS1 hk9 => ?_)
  have hS := hS1
  refine lv_istore (lv' := [(6, .int (nI (σ 5))), (5, .int (nI sc)), (0, .ref bs), (1, .ref (a 34)), (2, .int (nI t)), (3, .int v), (4, .int w)]) hx hb dL_law_80 hl (by decide) rfl (fun ls hl => ?_)
  refine lv_aload_n hx hb dL_law_82 rfl (lv_at hl 3 rfl) ?_
  refine lv_iconst (v := nI 4) hx hb dL_law_83 (by decide) ?_
  refine lkV (As := [.int (nI 4)]) (rest := []) (v := (nI (σ 4))) (m_X8_count l Γ _ hfl a b rf f z F Z σ hX.1 hX.2.1 (nI 4)) (fun E => exc0 (co0 (w := 4) (by decide))) (fun r h => vl_cnt (σ := σ) (z := z) (w := 4) (by decide) h) hE S k_X8_count gL_law_X8_count rfl ⟨(Nat.le_of_ble_eq_true rfl), (Nat.le_of_ble_eq_true rfl)⟩ hK hP hS hA 0 (ci := 8) rfl rfl rfl rfl hl.1 (Nat.le_of_ble_eq_true rfl) rfl dL_law_84 ⟨by show _ ≤ 709544; omega, by show _ ≤ 6973067; omega⟩ (fun H locs hP hS1 hk9 => ?_)
  have hS := hS1
  refine lv_iconst (v := nI 1) hx hb dL_law_87 (by decide) ?_
  refine bJne (P := (decide (σ 4 = 1))) (pc1 := 0) (pc2 := 0) (pc3 := 95) (pc4 := 96) hx hb dL_law_88 (by decide) dL_law_91 dL_law_92 (by decide) dL_law_95 rfl (is_o (by omega) (by decide)) ?_
  refine lv_istore (lv' := [(7, .int (bI (decide (σ 4 = 1)))), (6, .int (nI (σ 5))), (5, .int (nI sc)), (0, .ref bs), (1, .ref (a 34)), (2, .int (nI t)), (3, .int v), (4, .int w)]) hx hb dL_law_96 hl (by decide) rfl (fun ls hl => ?_)
  refine lv_aload_n hx hb dL_law_98 rfl (lv_at hl 4 rfl) ?_
  refine lkSl (As := [.ref (a 34)]) (rest := []) (v := lz_told σ) (m_L_told l Γ _ hfl a b rf hrf f z F Z σ sc ss nb bb hX) (fun E h => h) (fun r h => h) hE S k_L_told gL_law_L_told ⟨(Nat.le_of_ble_eq_true rfl), (Nat.le_of_ble_eq_true rfl)⟩ hK hP hS hA rfl hl.1 (Nat.le_of_ble_eq_true rfl) rfl dL_law_99 ⟨by show _ ≤ 709544; omega, by show _ ≤ 6973067; omega⟩ (fun H locs hP hS1 hk9 => ?_)
  have hS := hS1
  refine lv_lstore (lv' := [(8, .long (lz_told σ)), (7, .int (bI (decide (σ 4 = 1)))), (6, .int (nI (σ 5))), (5, .int (nI sc)), (0, .ref bs), (1, .ref (a 34)), (2, .int (nI t)), (3, .int v), (4, .int w)]) hx hb dL_law_102 hl (by decide) rfl (fun ls hl => ?_)
  refine lv_aload_n hx hb dL_law_104 rfl (lv_at hl 5 rfl) ?_
  refine lv_iload_n hx hb dL_law_105 rfl (lv_at hl 7 rfl) ?_
  refine lv_iload hx hb dL_law_106 (lv_at hl 8 rfl) ?_
  refine acS (As := [.ref (a 34), .int v, .int w]) (rest := []) (m_L_act l Γ _ hfl a b rf hrf f z F Z σ sc ss nb bb hX v w) (fun E h => h) hE S k_L_act gL_law_L_act ⟨(Nat.le_of_ble_eq_true rfl), (Nat.le_of_ble_eq_true rfl)⟩ hK hP hD hS hA rfl hl.1 (Nat.le_of_ble_eq_true rfl) rfl dL_law_108 ⟨by show _ ≤ 709544; omega, by show _ ≤ 6973067; omega⟩ (fun r9 u H locs hr hP hD hS => ?_)
  obtain ⟨f2, z2, F2, Z2⟩ := u
  rw [hq] at hr
  obtain ⟨hr1, hX2⟩ := hr
  refine asi (z := r) hr1 ?_
  have hXa : XR τ (cond B (svC sc) sc) (cond B (svS sc ss σ) ss) nb bb f2 z2 F2 Z2 := hX2
  refine lv_istore (lv' := [(10, .int r), (8, .long (lz_told σ)), (7, .int (bI (decide (σ 4 = 1)))), (6, .int (nI (σ 5))), (5, .int (nI sc)), (0, .ref bs), (1, .ref (a 34)), (2, .int (nI t)), (3, .int v), (4, .int w)]) hx hb dL_law_111 hl (by decide) rfl (fun ls hl => ?_)
  refine lv_aload_n hx hb dL_law_113 rfl (lv_at hl 6 rfl) ?_
  refine lkSl (As := [.ref (a 34)]) (rest := []) (v := lz_told τ) (m_L_told l Γ _ hfl a b rf hrf f2 z2 F2 Z2 τ (cond B (svC sc) sc) (cond B (svS sc ss σ) ss) nb bb hXa) (fun E h => h) (fun r h => h) hE S k_L_told gL_law_L_told ⟨(Nat.le_of_ble_eq_true rfl), (Nat.le_of_ble_eq_true rfl)⟩ hK hP hS hA rfl hl.1 (Nat.le_of_ble_eq_true rfl) rfl dL_law_114 ⟨by show _ ≤ 709544; omega, by show _ ≤ 6973067; omega⟩ (fun H locs hP hS1 hk9 => ?_)
  have hS := hS1
  refine lv_lstore (lv' := [(11, .long (lz_told τ)), (10, .int r), (8, .long (lz_told σ)), (7, .int (bI (decide (σ 4 = 1)))), (6, .int (nI (σ 5))), (5, .int (nI sc)), (0, .ref bs), (1, .ref (a 34)), (2, .int (nI t)), (3, .int v), (4, .int w)]) hx hb dL_law_117 hl (by decide) rfl (fun ls hl => ?_)
  refine lv_iload hx hb dL_law_119 (lv_at hl 1 rfl) ?_
  refine lv_bipush (v := (-9)) hx hb dL_law_121 (by decide) ?_
  cases B with
  | false =>
    obtain ⟨e1, e2⟩ := ac_no hA0
    refine lv_icmp_ne (tgt := 148) hx hb dL_law_123 (by decide) (fun c_123 => absurd e1 c_123) (fun c_123 => ?_)
    refine lv_lload hx hb dL_law_126 (lv_at hl 0 rfl) ?_
    refine asl (z := lz_told σ) (by rw [e2]) ?_
    refine lv_lload hx hb dL_law_128 (lv_at hl 2 rfl) ?_
    refine rLcmp hx hb dL_law_130 ?_
    refine lv_if_ne (tgt := 161) hx hb dL_law_131 (by decide) (fun c_131 => absurd rfl c_131) (fun c_131 => ?_)
    have hXb : XR τ sc ss nb bb f2 z2 F2 Z2 := hXa
    refine lv_aload_n hx hb dL_law_134 rfl (lv_at hl 7 rfl) ?_
    refine lv_bipush (v := nI 9) hx hb dL_law_135 (by decide) ?_
    refine lkV (As := [.int (nI 9)]) (rest := []) (v := (nI sc)) (m_X8_count l Γ _ hfl a b rf f2 z2 F2 Z2 τ hXb.1 hXb.2.1 (nI 9)) (fun E => exc0 (co0 (w := 9) (by decide))) (fun r h => (vl_c9 (σ := τ) (z := z2) h).trans hXb.2.2.2.1) hE S k_X8_count gL_law_X8_count rfl ⟨(Nat.le_of_ble_eq_true rfl), (Nat.le_of_ble_eq_true rfl)⟩ hK hP hS hA 0 (ci := 8) rfl rfl rfl rfl hl.1 (Nat.le_of_ble_eq_true rfl) rfl dL_law_137 ⟨by show _ ≤ 709544; omega, by show _ ≤ 6973067; omega⟩ (fun H locs hP hS1 hk9 => ?_)
    have hS := hS1
    refine lv_iload hx hb dL_law_140 (lv_at hl 5 rfl) ?_
    refine lv_icmp_eq (tgt := 163) hx hb dL_law_142 (by decide) (fun c_142 => ?_) (fun c_142 => absurd rfl c_142)
    exact lw_163 C0 hfl hL hK hE hrf hq hA0 hI hn h5 hG hXa hP hD hS (by omega) (by omega) (lv_sub hl [6, 7, 8, 9, 10, 5, 4, 3, 2, 1, 0] rfl) (fun H locs ls c1 s1 h1 h2 => KK H locs ls c1 s1 (by omega) (by omega))
  | true =>
    have e9 := ac_yes hA0
    refine lv_icmp_ne (tgt := 148) hx hb dL_law_123 (by decide) (fun c_123 => ?_) (fun c_123 => absurd (show r ≤ (-9 : Int32) by rw [c_123]; decide) e9)
    have hXb : XR τ (svC sc) (svS sc ss σ) nb bb f2 z2 F2 Z2 := hXa
    refine lv_aload_n hx hb dL_law_148 rfl (lv_at hl 7 rfl) ?_
    refine lv_bipush (v := nI 9) hx hb dL_law_149 (by decide) ?_
    refine lkV (As := [.int (nI 9)]) (rest := []) (v := (nI (svC sc))) (m_X8_count l Γ _ hfl a b rf f2 z2 F2 Z2 τ hXb.1 hXb.2.1 (nI 9)) (fun E => exc0 (co0 (w := 9) (by decide))) (fun r h => (vl_c9 (σ := τ) (z := z2) h).trans hXb.2.2.2.1) hE S k_X8_count gL_law_X8_count rfl ⟨(Nat.le_of_ble_eq_true rfl), (Nat.le_of_ble_eq_true rfl)⟩ hK hP hS hA 0 (ci := 8) rfl rfl rfl rfl hl.1 (Nat.le_of_ble_eq_true rfl) rfl dL_law_151 ⟨by show _ ≤ 709544; omega, by show _ ≤ 6973067; omega⟩ (fun H locs hP hS1 hk9 => ?_)
    have hS := hS1
    refine lv_iload hx hb dL_law_154 (lv_at hl 5 rfl) ?_
    refine lv_iconst (v := nI 1) hx hb dL_law_156 (by decide) ?_
    refine lv_iadd hx hb dL_law_157 ?_
    refine asi (z := nI (sc + 1)) (nI_add _ _) ?_
    refine lv_icmp_eq (tgt := 163) hx hb dL_law_158 (by decide) (fun c_158 => ?_) (fun c_158 => absurd (by rw [svC_5 h5]) c_158)
    exact lw_163 C0 hfl hL hK hE hrf hq hA0 hI hn h5 hG hXa hP hD hS (by omega) (by omega) (lv_sub hl [6, 7, 8, 9, 10, 5, 4, 3, 2, 1, 0] rfl) (fun H locs ls c1 s1 h1 h2 => KK H locs ls c1 s1 (by omega) (by omega))
set_option maxHeartbeats 4000000 in
set_option maxRecDepth 100000 in
theorem lw_33 {p : Program} {l : Launch} {e : Env} {s : State} {m : MethodId} {below : List Frame} {meth : Method} {c : Code} {bs L : Nat} {xs : Nat → Int32} {Q : State → Prop} (C0 : lw_At p s m meth c bs L xs) (hfl : l.stackTraces = false) (hL : L ≤ 260) {Γ : Gm} (hK : gK Γ s) (hE : gE (fun q : Nat => s.heap.size ≤ q) s) {a : Nat → Nat} {b : Nat → Nat → Nat} {rf : Nat → Option Nat} (hrf : ∀ i, i < 6 → rf i = some (b i 0)) {f : Nat → Nat → Int32} {z : Nat → Int32} {F : Nat → Nat → Nat → Int32} {Z : Nat → Nat → Int32} {sc nb : Nat} {ss : Nat → Nat → Nat} {bb : Nat → Nat} {H : Heap} {locs : List Loc} {cells slots : Nat} {ls : Array Slot} {σ : Nat → Nat} {n t : Nat} {v : Int32} (ht : t < 40) (hn : n + 2 ≤ 1000) (hG : LZ n sc σ ss) (hX : XR σ sc ss nb bb f z F Z) (hP : gP Γ (wXo Γ a b rf f z F Z) H) (hD : va_D (fun q : Nat => s.heap.size ≤ q) (wXo Γ a b rf f z F Z)) (hS : va_S (fun q : Nat => s.heap.size ≤ q) s.heap H locs) (hc : cells + 2123 ≤ 709544) (hs : slots + 12738 ≤ 6973067) (hl : lv_has ls 13 [(0, .ref bs), (1, .ref (a 34)), (2, .int (nI t))]) (KK : ∀ (H : Heap) (locs : List Loc) (ls : Array Slot) (cells1 slots1 : Nat), cells1 ≤ cells + 2123 → slots1 ≤ slots + 12738 → SI Γ s a b rf (n + 2) H locs → lv_has ls 13 [(0, .ref bs), (1, .ref (a 34)), (2, .int (nI (t + 1)))] → W p l e room_1 s m #[Value.ref bs] below meth c H locs cells1 slots1 Q (F0 m 10 ls [])) : W p l e room_1 s m #[Value.ref bs] below meth c H locs cells slots Q (F0 m 33 ls [.int v]) := by
  obtain ⟨hx, hb, hrt, hml, hown, hts0, hX0, hbl, hlk, hgv⟩ := id C0
  have hts : ∀ w ∈ wsL_law, w.before #[Value.ref bs] s = true := fun w h => hts0 w (wsL_law_in w h)
  have S : CallFix p m c cL_law 13 s #[Value.ref bs] wsL_law RL := ⟨hx, hb, hml, hown, hts⟩
  have hA : ∀ q : Nat, s.heap.size ≤ q → (fun q : Nat => s.heap.size ≤ q) q := fun _ h => h
  have hbA : ¬ (fun q : Nat => s.heap.size ≤ q) bs := Nat.not_le.mpr hbl
  have hl : lv_has ls 13 [(0, .ref bs), (1, .ref (a 34)), (2, .int (nI t))] := hl
  refine lv_istore_n (lv' := [(3, .int v), (0, .ref bs), (1, .ref (a 34)), (2, .int (nI t))]) hx hb dL_law_33 rfl hl (by decide) rfl (fun ls hl => ?_)
  refine lv_aload_n hx hb dL_law_34 rfl (lv_at hl 1 rfl) ?_
  refine lv_iconst (v := nI 2) hx hb dL_law_35 (by decide) ?_
  refine lv_iload_n hx hb dL_law_36 rfl (lv_at hl 3 rfl) ?_
  refine lv_imul hx hb dL_law_37 ?_
  refine asi (z := nI (2 * t)) (pk_mul _ _) ?_
  refine lv_iconst (v := nI 1) hx hb dL_law_38 (by decide) ?_
  refine lv_iadd hx hb dL_law_39 ?_
  refine asi (z := nI ((2 * t) + 1)) (nI_add _ _) ?_
  refine clS (k := ((2 * t) + 1)) (by omega) (by omega) S gL_law_L_cell ⟨(Nat.le_of_ble_eq_true rfl), (Nat.le_of_ble_eq_true rfl)⟩ hX0 hbl hbA hS hl.1 (Nat.le_of_ble_eq_true rfl) dL_law_40 ⟨by show _ ≤ 709544; omega, by show _ ≤ 6973067; omega⟩ (fun w => ?_)
  refine lv_istore (lv' := [(4, .int w), (3, .int v), (0, .ref bs), (1, .ref (a 34)), (2, .int (nI t))]) hx hb dL_law_43 hl (by decide) rfl (fun ls hl => ?_)
  refine lv_aload_n hx hb dL_law_45 rfl (lv_at hl 3 rfl) ?_
  refine lv_bipush (v := nI 9) hx hb dL_law_46 (by decide) ?_
  refine lkV (As := [.int (nI 9)]) (rest := []) (v := (nI sc)) (m_X8_count l Γ _ hfl a b rf f z F Z σ hX.1 hX.2.1 (nI 9)) (fun E => exc0 (co0 (w := 9) (by decide))) (fun r h => (vl_c9 (σ := σ) (z := z) h).trans hX.2.2.2.1) hE S k_X8_count gL_law_X8_count rfl ⟨(Nat.le_of_ble_eq_true rfl), (Nat.le_of_ble_eq_true rfl)⟩ hK hP hS hA 0 (ci := 8) rfl rfl rfl rfl hl.1 (Nat.le_of_ble_eq_true rfl) rfl dL_law_48 ⟨by show _ ≤ 709544; omega, by show _ ≤ 6973067; omega⟩ (fun H locs hP hS1 hk9 => ?_)
  have hS := hS1
  refine lv_bipush (v := nI 6) hx hb dL_law_51 (by decide) ?_
  refine lv_icmp_ne (tgt := 66) hx hb dL_law_53 (by decide) (fun c_53 => ?_) (fun c_53 => ?_)
  · have hc6 := hX.2.2.1
    have n_53 : ¬ sc = 6 := fun h => c_53 (by rw [h])
    exact lw_66 C0 hfl hL hK hE hrf hn (by omega) hG hX hP hD hS (by omega) (by omega) (lv_sub hl [2, 3, 4, 1, 0] rfl) (fun H locs ls c1 s1 h1 h2 => KK H locs ls c1 s1 (by omega) (by omega))
  · have hc6 := hX.2.2.1
    have n_53 : sc = 6 := (nI_eq (by omega) (by decide)).mp c_53
    refine lv_aload_n hx hb dL_law_56 rfl (lv_at hl 3 rfl) ?_
    refine acV (As := []) (rest := []) (m_X8_undo l Γ _ hfl a b rf hrf f z F Z σ sc ss nb bb hX) (fun E => exc0 (un0 (by omega))) hE S k_X8_undo gL_law_X8_undo rfl ⟨(Nat.le_of_ble_eq_true rfl), (Nat.le_of_ble_eq_true rfl)⟩ hK hP hD hS hA 0 (ci := 8) rfl rfl rfl rfl hl.1 (Nat.le_of_ble_eq_true rfl) rfl dL_law_57 ⟨by show _ ≤ 709544; omega, by show _ ≤ 6973067; omega⟩ (fun r8 u H locs hr hP hD hS => ?_)
    obtain ⟨f2, z2, F2, Z2⟩ := u
    obtain ⟨-, hr1, hX2⟩ := hr
    subst hr1
    refine lv_pop hx hb dL_law_60 rfl ?_
    refine lv_aload_n hx hb dL_law_61 rfl (lv_at hl 3 rfl) ?_
    refine acV (As := []) (rest := []) (m_X8_undo l Γ _ hfl a b rf hrf f2 z2 F2 Z2 (ss (sc - 1)) (sc - 1) ss nb bb hX2) (fun E => exc0 (un0 (by omega))) hE S k_X8_undo gL_law_X8_undo rfl ⟨(Nat.le_of_ble_eq_true rfl), (Nat.le_of_ble_eq_true rfl)⟩ hK hP hD hS hA 0 (ci := 8) rfl rfl rfl rfl hl.1 (Nat.le_of_ble_eq_true rfl) rfl dL_law_62 ⟨by show _ ≤ 709544; omega, by show _ ≤ 6973067; omega⟩ (fun r8 u H locs hr hP hD hS => ?_)
    obtain ⟨f3, z3, F3, Z3⟩ := u
    obtain ⟨-, hr1, hX3⟩ := hr
    subst hr1
    refine lv_pop hx hb dL_law_65 rfl ?_
    have hG9 : LZ n (sc - 1 - 1) (ss (sc - 1 - 1)) ss := ⟨hG.2 _ (by omega), fun j hj => hG.2 j (by omega)⟩
    exact lw_66 C0 hfl hL hK hE hrf hn (by omega) hG9 hX3 hP hD hS (by omega) (by omega) (lv_sub hl [2, 3, 4, 1, 0] rfl) (fun H locs ls c1 s1 h1 h2 => KK H locs ls c1 s1 (by omega) (by omega))
set_option maxHeartbeats 4000000 in
set_option maxRecDepth 100000 in
/-- the law's loop -/
theorem lw_loop {p : Program} {l : Launch} {e : Env} {s : State} {m : MethodId} {below : List Frame} {meth : Method} {c : Code} {bs L : Nat} {xs : Nat → Int32} (C0 : lw_At p s m meth c bs L xs) (hfl : l.stackTraces = false) (hL : L ≤ 260) {Γ : Gm} (hK : gK Γ s) (hE : gE (fun q : Nat => s.heap.size ≤ q) s) {a : Nat → Nat} {b : Nat → Nat → Nat} {rf : Nat → Option Nat} (hrf : ∀ i, i < 6 → rf i = some (b i 0)) :
    ∀ (n t cells slots : Nat), 40 - t < n → t ≤ 40 → cells + 2200 * (40 - t) ≤ 709544 → slots + 13000 * (40 - t) ≤ 6973067 → ∀ (H : Heap) (locs : List Loc), SI Γ s a b rf (2 * t) H locs → ∀ ls : Array Slot, lv_has ls 13 [(0, .ref bs), (1, .ref (a 34)), (2, .int (nI t))] → W p l e room_1 s m #[Value.ref bs] below meth c H locs cells slots (lw_Z below #[Value.ref bs] s) (F0 m 10 ls []) := by
  obtain ⟨hx, hb, hrt, hml, hown, hts0, hX0, hbl, hlk, hgv⟩ := id C0
  have hts : ∀ w ∈ wsL_law, w.before #[Value.ref bs] s = true := fun w h => hts0 w (wsL_law_in w h)
  have S : CallFix p m c cL_law 13 s #[Value.ref bs] wsL_law RL := ⟨hx, hb, hml, hown, hts⟩
  have hA : ∀ q : Nat, s.heap.size ≤ q → (fun q : Nat => s.heap.size ≤ q) q := fun _ h => h
  have hbA : ¬ (fun q : Nat => s.heap.size ≤ q) bs := Nat.not_le.mpr hbl
  intro n
  induction n with
  | zero => intro t cells slots h; exact absurd h (Nat.not_lt_zero _)
  | succ n ih =>
    intro t cells slots hn ht hc hs H locs hI ls hl
    have hS : va_S (fun q : Nat => s.heap.size ≤ q) s.heap H locs := by obtain ⟨_, _, _, _, _, _, _, _, _, -, -, -, -, hS⟩ := hI; exact hS
    refine lv_iload_n hx hb dL_law_10 rfl (lv_at hl 2 rfl) ?_
    refine lv_bipush (v := nI 40) hx hb dL_law_11 (by decide) ?_
    refine lv_icmp_ge (tgt := 257) hx hb dL_law_13 (by decide) (fun c_13 => ?_) (fun c_13 => ?_)
    · refine lv_iconst (v := nI 1) hx hb dL_law_257 (by decide) ?_
      refine va_forget (fun q hq => hS.2.2 q hq) ?_
      refine W.widen (k := 709544) (n := 6973067) (by omega) (by omega) ?_
      exact lw_ret (d0 := s.drawn) (Drawn.sameBut.refl s.drawn lw_cs) hx hb hrt hlk dL_law_258
    · have n_13 := (not_congr (nI_leI (a := 40) (b := t) (by omega) (by omega))).mp c_13
      obtain ⟨f, z, F, Z, σ, sc, ss, nb, bb, hX, hG, hP, hD, hS0⟩ := hI
      refine lv_iload_n hx hb dL_law_16 rfl (lv_at hl 2 rfl) ?_
      refine lv_iconst (v := nI 4) hx hb dL_law_17 (by decide) ?_
      refine lv_icmp_ge (tgt := 26) hx hb dL_law_18 (by decide) (fun c_18 => ?_) (fun c_18 => ?_)
      · refine lv_aload_n hx hb dL_law_26 rfl (lv_at hl 0 rfl) ?_
        refine lv_iconst (v := nI 2) hx hb dL_law_27 (by decide) ?_
        refine lv_iload_n hx hb dL_law_28 rfl (lv_at hl 2 rfl) ?_
        refine lv_imul hx hb dL_law_29 ?_
        refine asi (z := nI (2 * t)) (pk_mul _ _) ?_
        refine clS (k := (2 * t)) (by omega) (by omega) S gL_law_L_cell ⟨(Nat.le_of_ble_eq_true rfl), (Nat.le_of_ble_eq_true rfl)⟩ hX0 hbl hbA hS hl.1 (Nat.le_of_ble_eq_true rfl) dL_law_30 ⟨by show _ ≤ 709544; omega, by show _ ≤ 6973067; omega⟩ (fun v => ?_)
        exact lw_33 C0 hfl hL hK hE hrf (by omega) (by omega) hG hX hP hD hS (by omega) (by omega) (lv_sub hl [0, 1, 2] rfl) (fun H locs ls c1 s1 h1 h2 hI hl => ih (t + 1) c1 s1 (by omega) (by omega) (by omega) (by omega) H locs (by rw [show 2 * (t + 1) = 2 * t + 2 by omega]; exact hI) ls hl)
      · refine lv_bipush (v := nI 15) hx hb dL_law_21 (by decide) ?_
        refine lv_goto (tgt := 33) hx hb dL_law_23 (by decide) ?_
        exact lw_33 C0 hfl hL hK hE hrf (by omega) (by omega) hG hX hP hD hS (by omega) (by omega) (lv_sub hl [0, 1, 2] rfl) (fun H locs ls c1 s1 h1 h2 hI hl => ih (t + 1) c1 s1 (by omega) (by omega) (by omega) (by omega) H locs (by rw [show 2 * (t + 1) = 2 * t + 2 by omega]; exact hI) ls hl)
