/-! The law's steps: the object of the class, the script's cell for answers, the reference. -/
abbrev wLw (Γ : Gm) (a : Nat → Nat) (b : Nat → Nat → Nat) (rf : Nat → Option Nat) (f : Nat → Nat → Int32) (z : Nat → Int32) (F : Nat → Nat → Nat → Int32) (Z : Nat → Nat → Int32) (o : Nat) (og : Nat → Int64) (am : Nat → Nat) (v : Nat → Int32) (hs : Int64) (g : Nat → Nat → Int32) : va_W := ((o, oC Γ og) :: wXo Γ a b rf f z F Z) ++ wMd Γ am v hs g
/-- between two steps -/
def SI (Γ : Gm) (s : State) (a : Nat → Nat) (b : Nat → Nat → Nat) (rf : Nat → Option Nat) (am : Nat → Nat) (o : Nat) (H : Heap) (locs : List Loc) : Prop :=
  ∃ (f : Nat → Nat → Int32) (z : Nat → Int32) (F : Nat → Nat → Nat → Int32) (Z : Nat → Nat → Int32) (og : Nat → Int64) (v : Nat → Int32) (hs : Int64) (g : Nat → Nat → Int32) (σ : Nat → Nat) (sc : Nat) (ss : Nat → Nat → Nat) (nb : Nat) (bb : Nat → Nat),
    XR σ sc ss nb bb f z F Z ∧ MR σ sc ss nb bb v g ∧ gP Γ (wLw Γ a b rf f z F Z o og am v hs g) H ∧ va_D (fun q : Nat => s.heap.size ≤ q) (wLw Γ a b rf f z F Z o og am v hs g) ∧ va_S (fun q : Nat => s.heap.size ≤ q) s.heap H locs
abbrev LVs (bs x mo o i : Nat) : List (Nat × Value) := [(0, .ref bs), (1, .ref x), (2, .ref mo), (3, .ref o), (4, .int (nI i))]
theorem lw_pm {α : Type} (oc : α) (X M : List α) : ((oc :: X) ++ M).Perm (X ++ (M ++ [oc])) := by
  have h : (oc :: (X ++ M)).Perm ((X ++ M) ++ [oc]) := List.perm_append_comm (l₁ := [oc])
  rw [List.append_assoc] at h
  exact h
set_option maxHeartbeats 4000000 in
set_option maxRecDepth 100000 in
theorem lw_s_row {p : Program} {l : Launch} {e : Env} {s : State} {m : MethodId} {below : List Frame} {meth : Method} {c : Code} {bs L : Nat} {xs : Nat → Int32} {Q : State → Prop} (C0 : lw_At p s m meth c bs L xs) (hfl : l.stackTraces = false) (hL : L ≤ 3072) {Γ : Gm} (hK : gK Γ s) (hE : gE (fun q : Nat => s.heap.size ≤ q) s) {a : Nat → Nat} {b : Nat → Nat → Nat} {rf : Nat → Option Nat} (hrf : ∀ i, i < 6 → rf i = some (b i 0)) {am : Nat → Nat} {o i : Nat} (hi : i + 6 ≤ L) {cells slots : Nat} (hc : cells + 2 ≤ 625301) (hs : slots + 12 ≤ 7220200) {H : Heap} {locs : List Loc} (hI : SI Γ s a b rf am o H locs) {ls : Array Slot} (hl : lv_has ls 9 (LVs bs (a 34) (am 0) o i)) (KK : ∀ (H : Heap) (locs : List Loc) (ls : Array Slot), SI Γ s a b rf am o H locs → lv_has ls 9 (LVs bs (a 34) (am 0) o i) → W p l e room_1 s m #[Value.ref bs] below meth c H locs (cells + 2) (slots + 12) Q (F0 m 1710 ls [])) : W p l e room_1 s m #[Value.ref bs] below meth c H locs cells slots Q (F0 m 160 ls []) := by
  obtain ⟨hx, hb, hrt, hml, hown, hts0, hX0, hbl, hlk, hgv⟩ := id C0
  have hts : ∀ w ∈ wsL_law, w.before #[Value.ref bs] s = true := fun w h => hts0 w (wsL_law_in w h)
  have S : CallFix p m c cL_law 9 s #[Value.ref bs] wsL_law RL := ⟨hx, hb, hml, hown, hts⟩
  have hA : ∀ q : Nat, s.heap.size ≤ q → (fun q : Nat => s.heap.size ≤ q) q := fun _ h => h
  have hbA : ¬ (fun q : Nat => s.heap.size ≤ q) bs := Nat.not_le.mpr hbl
  obtain ⟨f, z, F, Z, og, v, hh, g, σ, sc, ss, nb, bb, hX, hM, hP, hD, hS⟩ := hI
  have hl : lv_has ls 9 [(0, .ref bs), (1, .ref (a 34)), (2, .ref (am 0)), (3, .ref o), (4, .int (nI i))] := hl
  refine lv_aload_n hx hb dL_law_160 rfl (lv_at hl 1 rfl) ?_
  refine lv_aload_n hx hb dL_law_161 rfl (lv_at hl 0 rfl) ?_
  refine lv_iload hx hb dL_law_162 (lv_at hl 4 rfl) ?_
  refine lv_iconst (v := nI 1) hx hb dL_law_164 (by decide) ?_
  refine lv_iadd hx hb dL_law_165 ?_
  refine asi (z := nI (i + 1)) (nI_add _ _) ?_
  refine va_sld hx hb hX0 hbl hbA hS (vp_in_nI (by omega) (by omega)) dL_law_166 ?_
  refine asi (z := xs (i + 1)) (congrArg xs (nI_clamp (by omega))) ?_
  refine lv_aload_n hx hb dL_law_167 rfl (lv_at hl 0 rfl) ?_
  refine lv_iload hx hb dL_law_168 (lv_at hl 4 rfl) ?_
  refine lv_iconst (v := nI 2) hx hb dL_law_170 (by decide) ?_
  refine lv_iadd hx hb dL_law_171 ?_
  refine asi (z := nI (i + 2)) (nI_add _ _) ?_
  refine va_sld hx hb hX0 hbl hbA hS (vp_in_nI (by omega) (by omega)) dL_law_172 ?_
  refine asi (z := xs (i + 2)) (congrArg xs (nI_clamp (by omega))) ?_
  refine lv_aload_n hx hb dL_law_173 rfl (lv_at hl 0 rfl) ?_
  refine lv_iload hx hb dL_law_174 (lv_at hl 4 rfl) ?_
  refine lv_iconst (v := nI 3) hx hb dL_law_176 (by decide) ?_
  refine lv_iadd hx hb dL_law_177 ?_
  refine asi (z := nI (i + 3)) (nI_add _ _) ?_
  refine va_sld hx hb hX0 hbl hbA hS (vp_in_nI (by omega) (by omega)) dL_law_178 ?_
  refine asi (z := xs (i + 3)) (congrArg xs (nI_clamp (by omega))) ?_
  refine lv_aload_n hx hb dL_law_179 rfl (lv_at hl 0 rfl) ?_
  refine lv_iload hx hb dL_law_180 (lv_at hl 4 rfl) ?_
  refine lv_iconst (v := nI 4) hx hb dL_law_182 (by decide) ?_
  refine lv_iadd hx hb dL_law_183 ?_
  refine asi (z := nI (i + 4)) (nI_add _ _) ?_
  refine va_sld hx hb hX0 hbl hbA hS (vp_in_nI (by omega) (by omega)) dL_law_184 ?_
  refine asi (z := xs (i + 4)) (congrArg xs (nI_clamp (by omega))) ?_
  refine lv_aload_n hx hb dL_law_185 rfl (lv_at hl 3 rfl) ?_
  refine hCi (As := [.ref (a 34), .int (xs (i + 1)), .int (xs (i + 2)), .int (xs (i + 3)), .int (xs (i + 4)), .ref o]) (rest := []) (m_L_row l hfl Γ _ a b rf hrf f z F Z σ sc ss nb bb hX o og (xs (i + 1)) (xs (i + 2)) (xs (i + 3)) (xs (i + 4))) hE S k_L_row gL_law_L_row ⟨(Nat.le_of_ble_eq_true rfl), (Nat.le_of_ble_eq_true rfl)⟩ hK hP hD hS hA rfl hl.1 (Nat.le_of_ble_eq_true rfl) rfl dL_law_186 ⟨by show cells + 0 + 1 ≤ 625301; omega, by show slots + 0 + 6 ≤ 7220200; omega⟩ (fun r u H locs hr hP hD hS => ?_)
  obtain ⟨⟨f1, z1, F1, Z1⟩, og1⟩ := u
  obtain ⟨hr0, hr1, hr2⟩ := hr
  subst hr0
  have hP : gP Γ (wLw Γ a b rf f1 z1 F1 Z1 o og1 am v hh g) H := hP
  have hD : va_D (fun q : Nat => s.heap.size ≤ q) (wLw Γ a b rf f1 z1 F1 Z1 o og1 am v hh g) := hD
  refine lv_istore (lv' := [(5, .int (nI (roC σ (xs (i + 1)) (xs (i + 2)) (xs (i + 3)) (xs (i + 4))))), (0, .ref bs), (1, .ref (a 34)), (2, .ref (am 0)), (3, .ref o), (4, .int (nI i))]) hx hb dL_law_189 hl (by decide) rfl (fun ls hl => ?_)
  refine lv_aload_n hx hb dL_law_191 rfl (lv_at hl 3 rfl) ?_
  refine lv_aload_n hx hb dL_law_192 rfl (lv_at hl 1 rfl) ?_
  refine lv_iload hx hb dL_law_193 (lv_at hl 5 rfl) ?_
  refine lv_iconst (v := nI 1) hx hb dL_law_195 (by decide) ?_
  refine lv_iadd hx hb dL_law_196 ?_
  refine asi (z := nI (i + 1)) (nI_add _ _) ?_
  refine va_sld hx hb hX0 hbl hbA hS (vp_in_nI (by omega) (by omega)) dL_law_197 ?_
  refine asi (z := xs (i + 1)) (congrArg xs (nI_clamp (by omega))) ?_
  refine lv_aload_n hx hb dL_law_198 rfl (lv_at hl 1 rfl) ?_
  refine lv_iload hx hb dL_law_199 (lv_at hl 5 rfl) ?_
  refine lv_iconst (v := nI 2) hx hb dL_law_201 (by decide) ?_
  refine lv_iadd hx hb dL_law_202 ?_
  refine asi (z := nI (i + 2)) (nI_add _ _) ?_
  refine va_sld hx hb hX0 hbl hbA hS (vp_in_nI (by omega) (by omega)) dL_law_203 ?_
  refine asi (z := xs (i + 2)) (congrArg xs (nI_clamp (by omega))) ?_
  refine lv_aload_n hx hb dL_law_204 rfl (lv_at hl 1 rfl) ?_
  refine lv_iload hx hb dL_law_205 (lv_at hl 5 rfl) ?_
  refine lv_iconst (v := nI 3) hx hb dL_law_207 (by decide) ?_
  refine lv_iadd hx hb dL_law_208 ?_
  refine asi (z := nI (i + 3)) (nI_add _ _) ?_
  refine va_sld hx hb hX0 hbl hbA hS (vp_in_nI (by omega) (by omega)) dL_law_209 ?_
  refine asi (z := xs (i + 3)) (congrArg xs (nI_clamp (by omega))) ?_
  refine lv_aload_n hx hb dL_law_210 rfl (lv_at hl 1 rfl) ?_
  refine lv_iload hx hb dL_law_211 (lv_at hl 5 rfl) ?_
  refine lv_iconst (v := nI 4) hx hb dL_law_213 (by decide) ?_
  refine lv_iadd hx hb dL_law_214 ?_
  refine asi (z := nI (i + 4)) (nI_add _ _) ?_
  refine va_sld hx hb hX0 hbl hbA hS (vp_in_nI (by omega) (by omega)) dL_law_215 ?_
  refine asi (z := xs (i + 4)) (congrArg xs (nI_clamp (by omega))) ?_
  refine aWi (As := [.int (xs (i + 1)), .int (xs (i + 2)), .int (xs (i + 3)), .int (xs (i + 4))]) (rest := []) (wr := (o, oC Γ og1) :: wXo Γ a b rf f1 z1 F1 Z1) (m_X9_row l Γ _ am v hh g σ sc ss nb bb hM (xs (i + 1)) (xs (i + 2)) (xs (i + 3)) (xs (i + 4))) S k_X9_row gL_law_X9_row rfl ⟨(Nat.le_of_ble_eq_true rfl), (Nat.le_of_ble_eq_true rfl)⟩ hK (gP_sw hP) (gD_sw hD) hS hA 0 (ci := 9) rfl rfl rfl rfl hl.1 (Nat.le_of_ble_eq_true rfl) rfl dL_law_216 ⟨by show cells + 1 + 0 ≤ 625301; omega, by show slots + 6 + 0 ≤ 7220200; omega⟩ (fun r u H locs hr hP hD hS => ?_)
  obtain ⟨v1, hh1, g1⟩ := u
  have hP : gP Γ (wLw Γ a b rf f1 z1 F1 Z1 o og1 am v1 hh1 g1) H := gP_sw (w1 := wMd Γ am v1 hh1 g1) hP
  have hD : va_D (fun q : Nat => s.heap.size ≤ q) (wLw Γ a b rf f1 z1 F1 Z1 o og1 am v1 hh1 g1) := gD_sw (w1 := wMd Γ am v1 hh1 g1) hD
  obtain ⟨ht0, hm1, hm2⟩ := hr
  refine lv_istore (lv' := [(6, .int r), (5, .int (nI (roC σ (xs (i + 1)) (xs (i + 2)) (xs (i + 3)) (xs (i + 4))))), (0, .ref bs), (1, .ref (a 34)), (2, .ref (am 0)), (3, .ref o), (4, .int (nI i))]) hx hb dL_law_219 hl (by decide) rfl (fun ls hl => ?_)
  refine lv_aload_n hx hb dL_law_221 rfl (lv_at hl 4 rfl) ?_
  refine rRi (As := []) (rest := []) (wr := (o, oC Γ og1) :: wXo Γ a b rf f1 z1 F1 Z1) (m_X9_thrown l Γ am v1 hh1 g1) S k_X9_thrown gL_law_X9_thrown rfl ⟨(Nat.le_of_ble_eq_true rfl), (Nat.le_of_ble_eq_true rfl)⟩ hK (gP_sw hP) 0 (ci := 9) rfl rfl rfl rfl hl.1 (Nat.le_of_ble_eq_true rfl) rfl dL_law_222 ⟨by show cells + 1 ≤ 625301; omega, by show slots + 6 ≤ 7220200; omega⟩ (fun t ht => ?_)
  subst ht
  refine asi (z := nI (roC σ (xs (i + 1)) (xs (i + 2)) (xs (i + 3)) (xs (i + 4)))) ht0 ?_
  refine lv_iload hx hb dL_law_225 (lv_at hl 1 rfl) ?_
  refine lv_icmp_eq (tgt := 232) hx hb dL_law_227 (by decide) (fun _ => ?_) (fun c => absurd rfl c)
  refine lv_iload hx hb dL_law_232 (lv_at hl 1 rfl) ?_
  have hcle : roC σ (xs (i + 1)) (xs (i + 2)) (xs (i + 3)) (xs (i + 4)) < 2 ^ 31 := by unfold roC; (repeat' split) <;> decide
  refine lv_if_ne (tgt := 249) hx hb dL_law_234 (by decide) (fun ck => ?_) (fun ck => ?_)
  · have hk : ¬ roC σ (xs (i + 1)) (xs (i + 2)) (xs (i + 3)) (xs (i + 4)) = 0 := fun h => ck (by rw [h]; rfl)
    refine lv_goto (tgt := 1710) hx hb dL_law_249 (by decide) ?_
    refine W.widen (k := cells + 2) (n := slots + 12) (by omega) (by omega) ?_
    exact KK _ _ _ ⟨f1, z1, F1, Z1, og1, v1, hh1, g1, _, _, _, _, _, (hr2 hk), (hm2 hk).2, hP, hD, hS⟩ (lv_sub hl [2, 3, 4, 5, 6] rfl)
  · have hk : roC σ (xs (i + 1)) (xs (i + 2)) (xs (i + 3)) (xs (i + 4)) = 0 := (nI_eq (a := roC σ (xs (i + 1)) (xs (i + 2)) (xs (i + 3)) (xs (i + 4))) (b := 0) hcle (by decide)).mp ck
    obtain ⟨ho1, hX1⟩ := hr1 hk
    obtain ⟨hr6, hM1⟩ := hm1 hk
    subst hr6
    have hl : lv_has ls 9 [(6, .int (nI (σ 0))), (5, .int (nI (roC σ (xs (i + 1)) (xs (i + 2)) (xs (i + 3)) (xs (i + 4))))), (0, .ref bs), (1, .ref (a 34)), (2, .ref (am 0)), (3, .ref o), (4, .int (nI i))] := hl
    refine lv_aload_n hx hb dL_law_237 rfl (lv_at hl 5 rfl) ?_
    refine lv_iconst (v := nI 0) hx hb dL_law_238 (by decide) ?_
    refine va_lald hx hb hK hP 0 2 rfl rfl (vp_in_nI (by omega) (by omega)) dL_law_239 ?_
    refine asl (z := (nI (σ 0)).toInt64) ((congrArg og1 (nI_clamp (by omega))).trans ho1) ?_
    refine lv_iload hx hb dL_law_240 (lv_at hl 0 rfl) ?_
    refine lv_i2l (v := (nI (σ 0)).toInt64) hx hb dL_law_242 rfl ?_
    refine rLcmp hx hb dL_law_243 ?_
    refine lv_if_eq (tgt := 249) hx hb dL_law_244 (by decide) (fun _ => ?_) (fun c => absurd rfl c)
    refine lv_goto (tgt := 1710) hx hb dL_law_249 (by decide) ?_
    refine W.widen (k := cells + 2) (n := slots + 12) (by omega) (by omega) ?_
    exact KK _ _ _ ⟨f1, z1, F1, Z1, og1, v1, hh1, g1, _, _, _, _, _, hX1, hM1, hP, hD, hS⟩ (lv_sub hl [2, 3, 4, 5, 6] rfl)

set_option maxHeartbeats 4000000 in
set_option maxRecDepth 100000 in
theorem lw_s_drop {p : Program} {l : Launch} {e : Env} {s : State} {m : MethodId} {below : List Frame} {meth : Method} {c : Code} {bs L : Nat} {xs : Nat → Int32} {Q : State → Prop} (C0 : lw_At p s m meth c bs L xs) (hfl : l.stackTraces = false) (hL : L ≤ 3072) {Γ : Gm} (hK : gK Γ s) (hE : gE (fun q : Nat => s.heap.size ≤ q) s) {a : Nat → Nat} {b : Nat → Nat → Nat} {rf : Nat → Option Nat} (hrf : ∀ i, i < 6 → rf i = some (b i 0)) {am : Nat → Nat} {o i : Nat} (hi : i + 6 ≤ L) {cells slots : Nat} (hc : cells + 2 ≤ 625301) (hs : slots + 12 ≤ 7220200) {H : Heap} {locs : List Loc} (hI : SI Γ s a b rf am o H locs) {ls : Array Slot} (hl : lv_has ls 9 (LVs bs (a 34) (am 0) o i)) (KK : ∀ (H : Heap) (locs : List Loc) (ls : Array Slot), SI Γ s a b rf am o H locs → lv_has ls 9 (LVs bs (a 34) (am 0) o i) → W p l e room_1 s m #[Value.ref bs] below meth c H locs (cells + 2) (slots + 12) Q (F0 m 1710 ls [])) : W p l e room_1 s m #[Value.ref bs] below meth c H locs cells slots Q (F0 m 252 ls []) := by
  obtain ⟨hx, hb, hrt, hml, hown, hts0, hX0, hbl, hlk, hgv⟩ := id C0
  have hts : ∀ w ∈ wsL_law, w.before #[Value.ref bs] s = true := fun w h => hts0 w (wsL_law_in w h)
  have S : CallFix p m c cL_law 9 s #[Value.ref bs] wsL_law RL := ⟨hx, hb, hml, hown, hts⟩
  have hA : ∀ q : Nat, s.heap.size ≤ q → (fun q : Nat => s.heap.size ≤ q) q := fun _ h => h
  have hbA : ¬ (fun q : Nat => s.heap.size ≤ q) bs := Nat.not_le.mpr hbl
  obtain ⟨f, z, F, Z, og, v, hh, g, σ, sc, ss, nb, bb, hX, hM, hP, hD, hS⟩ := hI
  have hl : lv_has ls 9 [(0, .ref bs), (1, .ref (a 34)), (2, .ref (am 0)), (3, .ref o), (4, .int (nI i))] := hl
  refine lv_aload_n hx hb dL_law_252 rfl (lv_at hl 1 rfl) ?_
  refine lv_aload_n hx hb dL_law_253 rfl (lv_at hl 0 rfl) ?_
  refine lv_iload hx hb dL_law_254 (lv_at hl 4 rfl) ?_
  refine lv_iconst (v := nI 1) hx hb dL_law_256 (by decide) ?_
  refine lv_iadd hx hb dL_law_257 ?_
  refine asi (z := nI (i + 1)) (nI_add _ _) ?_
  refine va_sld hx hb hX0 hbl hbA hS (vp_in_nI (by omega) (by omega)) dL_law_258 ?_
  refine asi (z := xs (i + 1)) (congrArg xs (nI_clamp (by omega))) ?_
  refine lv_aload_n hx hb dL_law_259 rfl (lv_at hl 3 rfl) ?_
  refine hCi (As := [.ref (a 34), .int (xs (i + 1)), .ref o]) (rest := []) (m_L_drop l hfl Γ _ a b rf hrf f z F Z σ sc ss nb bb hX o og (xs (i + 1))) hE S k_L_drop gL_law_L_drop ⟨(Nat.le_of_ble_eq_true rfl), (Nat.le_of_ble_eq_true rfl)⟩ hK hP hD hS hA rfl hl.1 (Nat.le_of_ble_eq_true rfl) rfl dL_law_260 ⟨by show cells + 0 + 1 ≤ 625301; omega, by show slots + 0 + 6 ≤ 7220200; omega⟩ (fun r u H locs hr hP hD hS => ?_)
  obtain ⟨⟨f1, z1, F1, Z1⟩, og1⟩ := u
  obtain ⟨hr0, hr1, hr2⟩ := hr
  subst hr0
  have hP : gP Γ (wLw Γ a b rf f1 z1 F1 Z1 o og1 am v hh g) H := hP
  have hD : va_D (fun q : Nat => s.heap.size ≤ q) (wLw Γ a b rf f1 z1 F1 Z1 o og1 am v hh g) := hD
  refine lv_istore (lv' := [(5, .int (nI (drC σ (xs (i + 1))))), (0, .ref bs), (1, .ref (a 34)), (2, .ref (am 0)), (3, .ref o), (4, .int (nI i))]) hx hb dL_law_263 hl (by decide) rfl (fun ls hl => ?_)
  refine lv_aload_n hx hb dL_law_265 rfl (lv_at hl 3 rfl) ?_
  refine lv_aload_n hx hb dL_law_266 rfl (lv_at hl 1 rfl) ?_
  refine lv_iload hx hb dL_law_267 (lv_at hl 5 rfl) ?_
  refine lv_iconst (v := nI 1) hx hb dL_law_269 (by decide) ?_
  refine lv_iadd hx hb dL_law_270 ?_
  refine asi (z := nI (i + 1)) (nI_add _ _) ?_
  refine va_sld hx hb hX0 hbl hbA hS (vp_in_nI (by omega) (by omega)) dL_law_271 ?_
  refine asi (z := xs (i + 1)) (congrArg xs (nI_clamp (by omega))) ?_
  refine aWi (As := [.int (xs (i + 1))]) (rest := []) (wr := (o, oC Γ og1) :: wXo Γ a b rf f1 z1 F1 Z1) (m_X9_drop l Γ _ am v hh g σ sc ss nb bb hM (xs (i + 1))) S k_X9_drop gL_law_X9_drop rfl ⟨(Nat.le_of_ble_eq_true rfl), (Nat.le_of_ble_eq_true rfl)⟩ hK (gP_sw hP) (gD_sw hD) hS hA 0 (ci := 9) rfl rfl rfl rfl hl.1 (Nat.le_of_ble_eq_true rfl) rfl dL_law_272 ⟨by show cells + 1 + 0 ≤ 625301; omega, by show slots + 6 + 0 ≤ 7220200; omega⟩ (fun r u H locs hr hP hD hS => ?_)
  obtain ⟨v1, hh1, g1⟩ := u
  have hP : gP Γ (wLw Γ a b rf f1 z1 F1 Z1 o og1 am v1 hh1 g1) H := gP_sw (w1 := wMd Γ am v1 hh1 g1) hP
  have hD : va_D (fun q : Nat => s.heap.size ≤ q) (wLw Γ a b rf f1 z1 F1 Z1 o og1 am v1 hh1 g1) := gD_sw (w1 := wMd Γ am v1 hh1 g1) hD
  obtain ⟨ht0, hm1, hm2⟩ := hr
  refine lv_istore (lv' := [(6, .int r), (5, .int (nI (drC σ (xs (i + 1))))), (0, .ref bs), (1, .ref (a 34)), (2, .ref (am 0)), (3, .ref o), (4, .int (nI i))]) hx hb dL_law_275 hl (by decide) rfl (fun ls hl => ?_)
  refine lv_aload_n hx hb dL_law_277 rfl (lv_at hl 4 rfl) ?_
  refine rRi (As := []) (rest := []) (wr := (o, oC Γ og1) :: wXo Γ a b rf f1 z1 F1 Z1) (m_X9_thrown l Γ am v1 hh1 g1) S k_X9_thrown gL_law_X9_thrown rfl ⟨(Nat.le_of_ble_eq_true rfl), (Nat.le_of_ble_eq_true rfl)⟩ hK (gP_sw hP) 0 (ci := 9) rfl rfl rfl rfl hl.1 (Nat.le_of_ble_eq_true rfl) rfl dL_law_278 ⟨by show cells + 1 ≤ 625301; omega, by show slots + 6 ≤ 7220200; omega⟩ (fun t ht => ?_)
  subst ht
  refine asi (z := nI (drC σ (xs (i + 1)))) ht0 ?_
  refine lv_iload hx hb dL_law_281 (lv_at hl 1 rfl) ?_
  refine lv_icmp_eq (tgt := 288) hx hb dL_law_283 (by decide) (fun _ => ?_) (fun c => absurd rfl c)
  refine lv_iload hx hb dL_law_288 (lv_at hl 1 rfl) ?_
  have hcle : drC σ (xs (i + 1)) < 2 ^ 31 := by unfold drC; (repeat' split) <;> decide
  refine lv_if_ne (tgt := 305) hx hb dL_law_290 (by decide) (fun ck => ?_) (fun ck => ?_)
  · have hk : ¬ drC σ (xs (i + 1)) = 0 := fun h => ck (by rw [h]; rfl)
    refine lv_goto (tgt := 1710) hx hb dL_law_305 (by decide) ?_
    refine W.widen (k := cells + 2) (n := slots + 12) (by omega) (by omega) ?_
    exact KK _ _ _ ⟨f1, z1, F1, Z1, og1, v1, hh1, g1, _, _, _, _, _, (hr2 hk), (hm2 hk).2, hP, hD, hS⟩ (lv_sub hl [2, 3, 4, 5, 6] rfl)
  · have hk : drC σ (xs (i + 1)) = 0 := (nI_eq (a := drC σ (xs (i + 1))) (b := 0) hcle (by decide)).mp ck
    obtain ⟨ho1, hX1⟩ := hr1 hk
    obtain ⟨hr6, hM1⟩ := hm1 hk
    subst hr6
    have hl : lv_has ls 9 [(6, .int (nI (σ 0 - 1))), (5, .int (nI (drC σ (xs (i + 1))))), (0, .ref bs), (1, .ref (a 34)), (2, .ref (am 0)), (3, .ref o), (4, .int (nI i))] := hl
    refine lv_aload_n hx hb dL_law_293 rfl (lv_at hl 5 rfl) ?_
    refine lv_iconst (v := nI 0) hx hb dL_law_294 (by decide) ?_
    refine va_lald hx hb hK hP 0 2 rfl rfl (vp_in_nI (by omega) (by omega)) dL_law_295 ?_
    refine asl (z := (nI (σ 0 - 1)).toInt64) ((congrArg og1 (nI_clamp (by omega))).trans ho1) ?_
    refine lv_iload hx hb dL_law_296 (lv_at hl 0 rfl) ?_
    refine lv_i2l (v := (nI (σ 0 - 1)).toInt64) hx hb dL_law_298 rfl ?_
    refine rLcmp hx hb dL_law_299 ?_
    refine lv_if_eq (tgt := 305) hx hb dL_law_300 (by decide) (fun _ => ?_) (fun c => absurd rfl c)
    refine lv_goto (tgt := 1710) hx hb dL_law_305 (by decide) ?_
    refine W.widen (k := cells + 2) (n := slots + 12) (by omega) (by omega) ?_
    exact KK _ _ _ ⟨f1, z1, F1, Z1, og1, v1, hh1, g1, _, _, _, _, _, hX1, hM1, hP, hD, hS⟩ (lv_sub hl [2, 3, 4, 5, 6] rfl)

set_option maxHeartbeats 4000000 in
set_option maxRecDepth 100000 in
theorem lw_s_change {p : Program} {l : Launch} {e : Env} {s : State} {m : MethodId} {below : List Frame} {meth : Method} {c : Code} {bs L : Nat} {xs : Nat → Int32} {Q : State → Prop} (C0 : lw_At p s m meth c bs L xs) (hfl : l.stackTraces = false) (hL : L ≤ 3072) {Γ : Gm} (hK : gK Γ s) (hE : gE (fun q : Nat => s.heap.size ≤ q) s) {a : Nat → Nat} {b : Nat → Nat → Nat} {rf : Nat → Option Nat} (hrf : ∀ i, i < 6 → rf i = some (b i 0)) {am : Nat → Nat} {o i : Nat} (hi : i + 6 ≤ L) {cells slots : Nat} (hc : cells + 2 ≤ 625301) (hs : slots + 12 ≤ 7220200) {H : Heap} {locs : List Loc} (hI : SI Γ s a b rf am o H locs) {ls : Array Slot} (hl : lv_has ls 9 (LVs bs (a 34) (am 0) o i)) (KK : ∀ (H : Heap) (locs : List Loc) (ls : Array Slot), SI Γ s a b rf am o H locs → lv_has ls 9 (LVs bs (a 34) (am 0) o i) → W p l e room_1 s m #[Value.ref bs] below meth c H locs (cells + 2) (slots + 12) Q (F0 m 1710 ls [])) : W p l e room_1 s m #[Value.ref bs] below meth c H locs cells slots Q (F0 m 308 ls []) := by
  obtain ⟨hx, hb, hrt, hml, hown, hts0, hX0, hbl, hlk, hgv⟩ := id C0
  have hts : ∀ w ∈ wsL_law, w.before #[Value.ref bs] s = true := fun w h => hts0 w (wsL_law_in w h)
  have S : CallFix p m c cL_law 9 s #[Value.ref bs] wsL_law RL := ⟨hx, hb, hml, hown, hts⟩
  have hA : ∀ q : Nat, s.heap.size ≤ q → (fun q : Nat => s.heap.size ≤ q) q := fun _ h => h
  have hbA : ¬ (fun q : Nat => s.heap.size ≤ q) bs := Nat.not_le.mpr hbl
  obtain ⟨f, z, F, Z, og, v, hh, g, σ, sc, ss, nb, bb, hX, hM, hP, hD, hS⟩ := hI
  have hl : lv_has ls 9 [(0, .ref bs), (1, .ref (a 34)), (2, .ref (am 0)), (3, .ref o), (4, .int (nI i))] := hl
  refine lv_aload_n hx hb dL_law_308 rfl (lv_at hl 1 rfl) ?_
  refine lv_aload_n hx hb dL_law_309 rfl (lv_at hl 0 rfl) ?_
  refine lv_iload hx hb dL_law_310 (lv_at hl 4 rfl) ?_
  refine lv_iconst (v := nI 1) hx hb dL_law_312 (by decide) ?_
  refine lv_iadd hx hb dL_law_313 ?_
  refine asi (z := nI (i + 1)) (nI_add _ _) ?_
  refine va_sld hx hb hX0 hbl hbA hS (vp_in_nI (by omega) (by omega)) dL_law_314 ?_
  refine asi (z := xs (i + 1)) (congrArg xs (nI_clamp (by omega))) ?_
  refine lv_aload_n hx hb dL_law_315 rfl (lv_at hl 0 rfl) ?_
  refine lv_iload hx hb dL_law_316 (lv_at hl 4 rfl) ?_
  refine lv_iconst (v := nI 2) hx hb dL_law_318 (by decide) ?_
  refine lv_iadd hx hb dL_law_319 ?_
  refine asi (z := nI (i + 2)) (nI_add _ _) ?_
  refine va_sld hx hb hX0 hbl hbA hS (vp_in_nI (by omega) (by omega)) dL_law_320 ?_
  refine asi (z := xs (i + 2)) (congrArg xs (nI_clamp (by omega))) ?_
  refine lv_aload_n hx hb dL_law_321 rfl (lv_at hl 3 rfl) ?_
  refine hCi (As := [.ref (a 34), .int (xs (i + 1)), .int (xs (i + 2)), .ref o]) (rest := []) (m_L_change l hfl Γ _ a b rf hrf f z F Z σ sc ss nb bb hX o og (xs (i + 1)) (xs (i + 2))) hE S k_L_change gL_law_L_change ⟨(Nat.le_of_ble_eq_true rfl), (Nat.le_of_ble_eq_true rfl)⟩ hK hP hD hS hA rfl hl.1 (Nat.le_of_ble_eq_true rfl) rfl dL_law_322 ⟨by show cells + 0 + 2 ≤ 625301; omega, by show slots + 0 + 12 ≤ 7220200; omega⟩ (fun r u H locs hr hP hD hS => ?_)
  obtain ⟨⟨f1, z1, F1, Z1⟩, og1⟩ := u
  obtain ⟨hr0, hr1, hr2⟩ := hr
  subst hr0
  have hP : gP Γ (wLw Γ a b rf f1 z1 F1 Z1 o og1 am v hh g) H := hP
  have hD : va_D (fun q : Nat => s.heap.size ≤ q) (wLw Γ a b rf f1 z1 F1 Z1 o og1 am v hh g) := hD
  refine lv_istore (lv' := [(5, .int (nI (chC σ (xs (i + 1)) (xs (i + 2))))), (0, .ref bs), (1, .ref (a 34)), (2, .ref (am 0)), (3, .ref o), (4, .int (nI i))]) hx hb dL_law_325 hl (by decide) rfl (fun ls hl => ?_)
  refine lv_aload_n hx hb dL_law_327 rfl (lv_at hl 3 rfl) ?_
  refine lv_aload_n hx hb dL_law_328 rfl (lv_at hl 1 rfl) ?_
  refine lv_iload hx hb dL_law_329 (lv_at hl 5 rfl) ?_
  refine lv_iconst (v := nI 1) hx hb dL_law_331 (by decide) ?_
  refine lv_iadd hx hb dL_law_332 ?_
  refine asi (z := nI (i + 1)) (nI_add _ _) ?_
  refine va_sld hx hb hX0 hbl hbA hS (vp_in_nI (by omega) (by omega)) dL_law_333 ?_
  refine asi (z := xs (i + 1)) (congrArg xs (nI_clamp (by omega))) ?_
  refine lv_aload_n hx hb dL_law_334 rfl (lv_at hl 1 rfl) ?_
  refine lv_iload hx hb dL_law_335 (lv_at hl 5 rfl) ?_
  refine lv_iconst (v := nI 2) hx hb dL_law_337 (by decide) ?_
  refine lv_iadd hx hb dL_law_338 ?_
  refine asi (z := nI (i + 2)) (nI_add _ _) ?_
  refine va_sld hx hb hX0 hbl hbA hS (vp_in_nI (by omega) (by omega)) dL_law_339 ?_
  refine asi (z := xs (i + 2)) (congrArg xs (nI_clamp (by omega))) ?_
  refine aWi (As := [.int (xs (i + 1)), .int (xs (i + 2))]) (rest := []) (wr := (o, oC Γ og1) :: wXo Γ a b rf f1 z1 F1 Z1) (m_X9_change l Γ _ am v hh g σ sc ss nb bb hM (xs (i + 1)) (xs (i + 2))) S k_X9_change gL_law_X9_change rfl ⟨(Nat.le_of_ble_eq_true rfl), (Nat.le_of_ble_eq_true rfl)⟩ hK (gP_sw hP) (gD_sw hD) hS hA 0 (ci := 9) rfl rfl rfl rfl hl.1 (Nat.le_of_ble_eq_true rfl) rfl dL_law_340 ⟨by show cells + 2 + 0 ≤ 625301; omega, by show slots + 12 + 0 ≤ 7220200; omega⟩ (fun r u H locs hr hP hD hS => ?_)
  obtain ⟨v1, hh1, g1⟩ := u
  have hP : gP Γ (wLw Γ a b rf f1 z1 F1 Z1 o og1 am v1 hh1 g1) H := gP_sw (w1 := wMd Γ am v1 hh1 g1) hP
  have hD : va_D (fun q : Nat => s.heap.size ≤ q) (wLw Γ a b rf f1 z1 F1 Z1 o og1 am v1 hh1 g1) := gD_sw (w1 := wMd Γ am v1 hh1 g1) hD
  obtain ⟨ht0, hm1, hm2⟩ := hr
  refine lv_istore (lv' := [(6, .int r), (5, .int (nI (chC σ (xs (i + 1)) (xs (i + 2))))), (0, .ref bs), (1, .ref (a 34)), (2, .ref (am 0)), (3, .ref o), (4, .int (nI i))]) hx hb dL_law_343 hl (by decide) rfl (fun ls hl => ?_)
  refine lv_aload_n hx hb dL_law_345 rfl (lv_at hl 4 rfl) ?_
  refine rRi (As := []) (rest := []) (wr := (o, oC Γ og1) :: wXo Γ a b rf f1 z1 F1 Z1) (m_X9_thrown l Γ am v1 hh1 g1) S k_X9_thrown gL_law_X9_thrown rfl ⟨(Nat.le_of_ble_eq_true rfl), (Nat.le_of_ble_eq_true rfl)⟩ hK (gP_sw hP) 0 (ci := 9) rfl rfl rfl rfl hl.1 (Nat.le_of_ble_eq_true rfl) rfl dL_law_346 ⟨by show cells + 2 ≤ 625301; omega, by show slots + 12 ≤ 7220200; omega⟩ (fun t ht => ?_)
  subst ht
  refine asi (z := nI (chC σ (xs (i + 1)) (xs (i + 2)))) ht0 ?_
  refine lv_iload hx hb dL_law_349 (lv_at hl 1 rfl) ?_
  refine lv_icmp_eq (tgt := 356) hx hb dL_law_351 (by decide) (fun _ => ?_) (fun c => absurd rfl c)
  refine lv_iload hx hb dL_law_356 (lv_at hl 1 rfl) ?_
  have hcle : chC σ (xs (i + 1)) (xs (i + 2)) < 2 ^ 31 := by unfold chC; (repeat' split) <;> decide
  refine lv_if_ne (tgt := 373) hx hb dL_law_358 (by decide) (fun ck => ?_) (fun ck => ?_)
  · have hk : ¬ chC σ (xs (i + 1)) (xs (i + 2)) = 0 := fun h => ck (by rw [h]; rfl)
    refine lv_goto (tgt := 1710) hx hb dL_law_373 (by decide) ?_
    refine W.widen (k := cells + 2) (n := slots + 12) (by omega) (by omega) ?_
    exact KK _ _ _ ⟨f1, z1, F1, Z1, og1, v1, hh1, g1, _, _, _, _, _, (hr2 hk), (hm2 hk).2, hP, hD, hS⟩ (lv_sub hl [2, 3, 4, 5, 6] rfl)
  · have hk : chC σ (xs (i + 1)) (xs (i + 2)) = 0 := (nI_eq (a := chC σ (xs (i + 1)) (xs (i + 2))) (b := 0) hcle (by decide)).mp ck
    obtain ⟨ho1, hX1⟩ := hr1 hk
    obtain ⟨hr6, hM1⟩ := hm1 hk
    subst hr6
    have hl : lv_has ls 9 [(6, .int (nI (oR σ (xs (i + 1)).toNatClampNeg 2))), (5, .int (nI (chC σ (xs (i + 1)) (xs (i + 2))))), (0, .ref bs), (1, .ref (a 34)), (2, .ref (am 0)), (3, .ref o), (4, .int (nI i))] := hl
    refine lv_aload_n hx hb dL_law_361 rfl (lv_at hl 5 rfl) ?_
    refine lv_iconst (v := nI 0) hx hb dL_law_362 (by decide) ?_
    refine va_lald hx hb hK hP 0 2 rfl rfl (vp_in_nI (by omega) (by omega)) dL_law_363 ?_
    refine asl (z := (nI (oR σ (xs (i + 1)).toNatClampNeg 2)).toInt64) ((congrArg og1 (nI_clamp (by omega))).trans ho1) ?_
    refine lv_iload hx hb dL_law_364 (lv_at hl 0 rfl) ?_
    refine lv_i2l (v := (nI (oR σ (xs (i + 1)).toNatClampNeg 2)).toInt64) hx hb dL_law_366 rfl ?_
    refine rLcmp hx hb dL_law_367 ?_
    refine lv_if_eq (tgt := 373) hx hb dL_law_368 (by decide) (fun _ => ?_) (fun c => absurd rfl c)
    refine lv_goto (tgt := 1710) hx hb dL_law_373 (by decide) ?_
    refine W.widen (k := cells + 2) (n := slots + 12) (by omega) (by omega) ?_
    exact KK _ _ _ ⟨f1, z1, F1, Z1, og1, v1, hh1, g1, _, _, _, _, _, hX1, hM1, hP, hD, hS⟩ (lv_sub hl [2, 3, 4, 5, 6] rfl)

set_option maxHeartbeats 4000000 in
set_option maxRecDepth 100000 in
theorem lw_s_person {p : Program} {l : Launch} {e : Env} {s : State} {m : MethodId} {below : List Frame} {meth : Method} {c : Code} {bs L : Nat} {xs : Nat → Int32} {Q : State → Prop} (C0 : lw_At p s m meth c bs L xs) (hfl : l.stackTraces = false) (hL : L ≤ 3072) {Γ : Gm} (hK : gK Γ s) (hE : gE (fun q : Nat => s.heap.size ≤ q) s) {a : Nat → Nat} {b : Nat → Nat → Nat} {rf : Nat → Option Nat} (hrf : ∀ i, i < 6 → rf i = some (b i 0)) {am : Nat → Nat} {o i : Nat} (hi : i + 6 ≤ L) {cells slots : Nat} (hc : cells + 2 ≤ 625301) (hs : slots + 12 ≤ 7220200) {H : Heap} {locs : List Loc} (hI : SI Γ s a b rf am o H locs) {ls : Array Slot} (hl : lv_has ls 9 (LVs bs (a 34) (am 0) o i)) (KK : ∀ (H : Heap) (locs : List Loc) (ls : Array Slot), SI Γ s a b rf am o H locs → lv_has ls 9 (LVs bs (a 34) (am 0) o i) → W p l e room_1 s m #[Value.ref bs] below meth c H locs (cells + 2) (slots + 12) Q (F0 m 1710 ls [])) : W p l e room_1 s m #[Value.ref bs] below meth c H locs cells slots Q (F0 m 376 ls []) := by
  obtain ⟨hx, hb, hrt, hml, hown, hts0, hX0, hbl, hlk, hgv⟩ := id C0
  have hts : ∀ w ∈ wsL_law, w.before #[Value.ref bs] s = true := fun w h => hts0 w (wsL_law_in w h)
  have S : CallFix p m c cL_law 9 s #[Value.ref bs] wsL_law RL := ⟨hx, hb, hml, hown, hts⟩
  have hA : ∀ q : Nat, s.heap.size ≤ q → (fun q : Nat => s.heap.size ≤ q) q := fun _ h => h
  have hbA : ¬ (fun q : Nat => s.heap.size ≤ q) bs := Nat.not_le.mpr hbl
  obtain ⟨f, z, F, Z, og, v, hh, g, σ, sc, ss, nb, bb, hX, hM, hP, hD, hS⟩ := hI
  have hl : lv_has ls 9 [(0, .ref bs), (1, .ref (a 34)), (2, .ref (am 0)), (3, .ref o), (4, .int (nI i))] := hl
  refine lv_aload_n hx hb dL_law_376 rfl (lv_at hl 1 rfl) ?_
  refine lv_aload_n hx hb dL_law_377 rfl (lv_at hl 0 rfl) ?_
  refine lv_iload hx hb dL_law_378 (lv_at hl 4 rfl) ?_
  refine lv_iconst (v := nI 1) hx hb dL_law_380 (by decide) ?_
  refine lv_iadd hx hb dL_law_381 ?_
  refine asi (z := nI (i + 1)) (nI_add _ _) ?_
  refine va_sld hx hb hX0 hbl hbA hS (vp_in_nI (by omega) (by omega)) dL_law_382 ?_
  refine asi (z := xs (i + 1)) (congrArg xs (nI_clamp (by omega))) ?_
  refine lv_aload_n hx hb dL_law_383 rfl (lv_at hl 0 rfl) ?_
  refine lv_iload hx hb dL_law_384 (lv_at hl 4 rfl) ?_
  refine lv_iconst (v := nI 2) hx hb dL_law_386 (by decide) ?_
  refine lv_iadd hx hb dL_law_387 ?_
  refine asi (z := nI (i + 2)) (nI_add _ _) ?_
  refine va_sld hx hb hX0 hbl hbA hS (vp_in_nI (by omega) (by omega)) dL_law_388 ?_
  refine asi (z := xs (i + 2)) (congrArg xs (nI_clamp (by omega))) ?_
  refine lv_aload_n hx hb dL_law_389 rfl (lv_at hl 0 rfl) ?_
  refine lv_iload hx hb dL_law_390 (lv_at hl 4 rfl) ?_
  refine lv_iconst (v := nI 3) hx hb dL_law_392 (by decide) ?_
  refine lv_iadd hx hb dL_law_393 ?_
  refine asi (z := nI (i + 3)) (nI_add _ _) ?_
  refine va_sld hx hb hX0 hbl hbA hS (vp_in_nI (by omega) (by omega)) dL_law_394 ?_
  refine asi (z := xs (i + 3)) (congrArg xs (nI_clamp (by omega))) ?_
  refine lv_aload_n hx hb dL_law_395 rfl (lv_at hl 3 rfl) ?_
  refine hCi (As := [.ref (a 34), .int (xs (i + 1)), .int (xs (i + 2)), .int (xs (i + 3)), .ref o]) (rest := []) (m_L_person l hfl Γ _ a b rf hrf f z F Z σ sc ss nb bb hX o og (xs (i + 1)) (xs (i + 2)) (xs (i + 3))) hE S k_L_person gL_law_L_person ⟨(Nat.le_of_ble_eq_true rfl), (Nat.le_of_ble_eq_true rfl)⟩ hK hP hD hS hA rfl hl.1 (Nat.le_of_ble_eq_true rfl) rfl dL_law_396 ⟨by show cells + 0 + 1 ≤ 625301; omega, by show slots + 0 + 6 ≤ 7220200; omega⟩ (fun r u H locs hr hP hD hS => ?_)
  obtain ⟨⟨f1, z1, F1, Z1⟩, og1⟩ := u
  obtain ⟨hr0, hr1, hr2⟩ := hr
  subst hr0
  have hP : gP Γ (wLw Γ a b rf f1 z1 F1 Z1 o og1 am v hh g) H := hP
  have hD : va_D (fun q : Nat => s.heap.size ≤ q) (wLw Γ a b rf f1 z1 F1 Z1 o og1 am v hh g) := hD
  refine lv_istore (lv' := [(5, .int (nI (psC (xs (i + 1)) (xs (i + 2)) (xs (i + 3))))), (0, .ref bs), (1, .ref (a 34)), (2, .ref (am 0)), (3, .ref o), (4, .int (nI i))]) hx hb dL_law_399 hl (by decide) rfl (fun ls hl => ?_)
  refine lv_aload_n hx hb dL_law_401 rfl (lv_at hl 3 rfl) ?_
  refine lv_aload_n hx hb dL_law_402 rfl (lv_at hl 1 rfl) ?_
  refine lv_iload hx hb dL_law_403 (lv_at hl 5 rfl) ?_
  refine lv_iconst (v := nI 1) hx hb dL_law_405 (by decide) ?_
  refine lv_iadd hx hb dL_law_406 ?_
  refine asi (z := nI (i + 1)) (nI_add _ _) ?_
  refine va_sld hx hb hX0 hbl hbA hS (vp_in_nI (by omega) (by omega)) dL_law_407 ?_
  refine asi (z := xs (i + 1)) (congrArg xs (nI_clamp (by omega))) ?_
  refine lv_aload_n hx hb dL_law_408 rfl (lv_at hl 1 rfl) ?_
  refine lv_iload hx hb dL_law_409 (lv_at hl 5 rfl) ?_
  refine lv_iconst (v := nI 2) hx hb dL_law_411 (by decide) ?_
  refine lv_iadd hx hb dL_law_412 ?_
  refine asi (z := nI (i + 2)) (nI_add _ _) ?_
  refine va_sld hx hb hX0 hbl hbA hS (vp_in_nI (by omega) (by omega)) dL_law_413 ?_
  refine asi (z := xs (i + 2)) (congrArg xs (nI_clamp (by omega))) ?_
  refine lv_aload_n hx hb dL_law_414 rfl (lv_at hl 1 rfl) ?_
  refine lv_iload hx hb dL_law_415 (lv_at hl 5 rfl) ?_
  refine lv_iconst (v := nI 3) hx hb dL_law_417 (by decide) ?_
  refine lv_iadd hx hb dL_law_418 ?_
  refine asi (z := nI (i + 3)) (nI_add _ _) ?_
  refine va_sld hx hb hX0 hbl hbA hS (vp_in_nI (by omega) (by omega)) dL_law_419 ?_
  refine asi (z := xs (i + 3)) (congrArg xs (nI_clamp (by omega))) ?_
  refine aWi (As := [.int (xs (i + 1)), .int (xs (i + 2)), .int (xs (i + 3))]) (rest := []) (wr := (o, oC Γ og1) :: wXo Γ a b rf f1 z1 F1 Z1) (m_X9_person l Γ _ am v hh g σ sc ss nb bb hM (xs (i + 1)) (xs (i + 2)) (xs (i + 3))) S k_X9_person gL_law_X9_person rfl ⟨(Nat.le_of_ble_eq_true rfl), (Nat.le_of_ble_eq_true rfl)⟩ hK (gP_sw hP) (gD_sw hD) hS hA 0 (ci := 9) rfl rfl rfl rfl hl.1 (Nat.le_of_ble_eq_true rfl) rfl dL_law_420 ⟨by show cells + 1 + 0 ≤ 625301; omega, by show slots + 6 + 0 ≤ 7220200; omega⟩ (fun r u H locs hr hP hD hS => ?_)
  obtain ⟨v1, hh1, g1⟩ := u
  have hP : gP Γ (wLw Γ a b rf f1 z1 F1 Z1 o og1 am v1 hh1 g1) H := gP_sw (w1 := wMd Γ am v1 hh1 g1) hP
  have hD : va_D (fun q : Nat => s.heap.size ≤ q) (wLw Γ a b rf f1 z1 F1 Z1 o og1 am v1 hh1 g1) := gD_sw (w1 := wMd Γ am v1 hh1 g1) hD
  obtain ⟨ht0, hm1, hm2⟩ := hr
  refine lv_istore (lv' := [(6, .int r), (5, .int (nI (psC (xs (i + 1)) (xs (i + 2)) (xs (i + 3))))), (0, .ref bs), (1, .ref (a 34)), (2, .ref (am 0)), (3, .ref o), (4, .int (nI i))]) hx hb dL_law_423 hl (by decide) rfl (fun ls hl => ?_)
  refine lv_aload_n hx hb dL_law_425 rfl (lv_at hl 4 rfl) ?_
  refine rRi (As := []) (rest := []) (wr := (o, oC Γ og1) :: wXo Γ a b rf f1 z1 F1 Z1) (m_X9_thrown l Γ am v1 hh1 g1) S k_X9_thrown gL_law_X9_thrown rfl ⟨(Nat.le_of_ble_eq_true rfl), (Nat.le_of_ble_eq_true rfl)⟩ hK (gP_sw hP) 0 (ci := 9) rfl rfl rfl rfl hl.1 (Nat.le_of_ble_eq_true rfl) rfl dL_law_426 ⟨by show cells + 1 ≤ 625301; omega, by show slots + 6 ≤ 7220200; omega⟩ (fun t ht => ?_)
  subst ht
  refine asi (z := nI (psC (xs (i + 1)) (xs (i + 2)) (xs (i + 3)))) ht0 ?_
  refine lv_iload hx hb dL_law_429 (lv_at hl 1 rfl) ?_
  refine lv_icmp_eq (tgt := 436) hx hb dL_law_431 (by decide) (fun _ => ?_) (fun c => absurd rfl c)
  refine lv_iload hx hb dL_law_436 (lv_at hl 1 rfl) ?_
  have hcle : psC (xs (i + 1)) (xs (i + 2)) (xs (i + 3)) < 2 ^ 31 := by unfold psC; (repeat' split) <;> decide
  refine lv_if_ne (tgt := 453) hx hb dL_law_438 (by decide) (fun ck => ?_) (fun ck => ?_)
  · have hk : ¬ psC (xs (i + 1)) (xs (i + 2)) (xs (i + 3)) = 0 := fun h => ck (by rw [h]; rfl)
    refine lv_goto (tgt := 1710) hx hb dL_law_453 (by decide) ?_
    refine W.widen (k := cells + 2) (n := slots + 12) (by omega) (by omega) ?_
    exact KK _ _ _ ⟨f1, z1, F1, Z1, og1, v1, hh1, g1, _, _, _, _, _, (hr2 hk), (hm2 hk).2, hP, hD, hS⟩ (lv_sub hl [2, 3, 4, 5, 6] rfl)
  · have hk : psC (xs (i + 1)) (xs (i + 2)) (xs (i + 3)) = 0 := (nI_eq (a := psC (xs (i + 1)) (xs (i + 2)) (xs (i + 3))) (b := 0) hcle (by decide)).mp ck
    obtain ⟨ho1, hX1⟩ := hr1 hk
    obtain ⟨hr6, hM1⟩ := hm1 hk
    subst hr6
    have hl : lv_has ls 9 [(6, .int (nI (oP σ (xs (i + 1)).toNatClampNeg 0))), (5, .int (nI (psC (xs (i + 1)) (xs (i + 2)) (xs (i + 3))))), (0, .ref bs), (1, .ref (a 34)), (2, .ref (am 0)), (3, .ref o), (4, .int (nI i))] := hl
    refine lv_aload_n hx hb dL_law_441 rfl (lv_at hl 5 rfl) ?_
    refine lv_iconst (v := nI 0) hx hb dL_law_442 (by decide) ?_
    refine va_lald hx hb hK hP 0 2 rfl rfl (vp_in_nI (by omega) (by omega)) dL_law_443 ?_
    refine asl (z := (nI (oP σ (xs (i + 1)).toNatClampNeg 0)).toInt64) ((congrArg og1 (nI_clamp (by omega))).trans ho1) ?_
    refine lv_iload hx hb dL_law_444 (lv_at hl 0 rfl) ?_
    refine lv_i2l (v := (nI (oP σ (xs (i + 1)).toNatClampNeg 0)).toInt64) hx hb dL_law_446 rfl ?_
    refine rLcmp hx hb dL_law_447 ?_
    refine lv_if_eq (tgt := 453) hx hb dL_law_448 (by decide) (fun _ => ?_) (fun c => absurd rfl c)
    refine lv_goto (tgt := 1710) hx hb dL_law_453 (by decide) ?_
    refine W.widen (k := cells + 2) (n := slots + 12) (by omega) (by omega) ?_
    exact KK _ _ _ ⟨f1, z1, F1, Z1, og1, v1, hh1, g1, _, _, _, _, _, hX1, hM1, hP, hD, hS⟩ (lv_sub hl [2, 3, 4, 5, 6] rfl)

set_option maxHeartbeats 4000000 in
set_option maxRecDepth 100000 in
theorem lw_s_master {p : Program} {l : Launch} {e : Env} {s : State} {m : MethodId} {below : List Frame} {meth : Method} {c : Code} {bs L : Nat} {xs : Nat → Int32} {Q : State → Prop} (C0 : lw_At p s m meth c bs L xs) (hfl : l.stackTraces = false) (hL : L ≤ 3072) {Γ : Gm} (hK : gK Γ s) (hE : gE (fun q : Nat => s.heap.size ≤ q) s) {a : Nat → Nat} {b : Nat → Nat → Nat} {rf : Nat → Option Nat} (hrf : ∀ i, i < 6 → rf i = some (b i 0)) {am : Nat → Nat} {o i : Nat} (hi : i + 6 ≤ L) {cells slots : Nat} (hc : cells + 2 ≤ 625301) (hs : slots + 12 ≤ 7220200) {H : Heap} {locs : List Loc} (hI : SI Γ s a b rf am o H locs) {ls : Array Slot} (hl : lv_has ls 9 (LVs bs (a 34) (am 0) o i)) (KK : ∀ (H : Heap) (locs : List Loc) (ls : Array Slot), SI Γ s a b rf am o H locs → lv_has ls 9 (LVs bs (a 34) (am 0) o i) → W p l e room_1 s m #[Value.ref bs] below meth c H locs (cells + 2) (slots + 12) Q (F0 m 1710 ls [])) : W p l e room_1 s m #[Value.ref bs] below meth c H locs cells slots Q (F0 m 456 ls []) := by
  obtain ⟨hx, hb, hrt, hml, hown, hts0, hX0, hbl, hlk, hgv⟩ := id C0
  have hts : ∀ w ∈ wsL_law, w.before #[Value.ref bs] s = true := fun w h => hts0 w (wsL_law_in w h)
  have S : CallFix p m c cL_law 9 s #[Value.ref bs] wsL_law RL := ⟨hx, hb, hml, hown, hts⟩
  have hA : ∀ q : Nat, s.heap.size ≤ q → (fun q : Nat => s.heap.size ≤ q) q := fun _ h => h
  have hbA : ¬ (fun q : Nat => s.heap.size ≤ q) bs := Nat.not_le.mpr hbl
  obtain ⟨f, z, F, Z, og, v, hh, g, σ, sc, ss, nb, bb, hX, hM, hP, hD, hS⟩ := hI
  have hl : lv_has ls 9 [(0, .ref bs), (1, .ref (a 34)), (2, .ref (am 0)), (3, .ref o), (4, .int (nI i))] := hl
  refine lv_aload_n hx hb dL_law_456 rfl (lv_at hl 1 rfl) ?_
  refine lv_aload_n hx hb dL_law_457 rfl (lv_at hl 0 rfl) ?_
  refine lv_iload hx hb dL_law_458 (lv_at hl 4 rfl) ?_
  refine lv_iconst (v := nI 1) hx hb dL_law_460 (by decide) ?_
  refine lv_iadd hx hb dL_law_461 ?_
  refine asi (z := nI (i + 1)) (nI_add _ _) ?_
  refine va_sld hx hb hX0 hbl hbA hS (vp_in_nI (by omega) (by omega)) dL_law_462 ?_
  refine asi (z := xs (i + 1)) (congrArg xs (nI_clamp (by omega))) ?_
  refine lv_aload_n hx hb dL_law_463 rfl (lv_at hl 0 rfl) ?_
  refine lv_iload hx hb dL_law_464 (lv_at hl 4 rfl) ?_
  refine lv_iconst (v := nI 2) hx hb dL_law_466 (by decide) ?_
  refine lv_iadd hx hb dL_law_467 ?_
  refine asi (z := nI (i + 2)) (nI_add _ _) ?_
  refine va_sld hx hb hX0 hbl hbA hS (vp_in_nI (by omega) (by omega)) dL_law_468 ?_
  refine asi (z := xs (i + 2)) (congrArg xs (nI_clamp (by omega))) ?_
  refine lv_aload_n hx hb dL_law_469 rfl (lv_at hl 3 rfl) ?_
  refine hCi (As := [.ref (a 34), .int (xs (i + 1)), .int (xs (i + 2)), .ref o]) (rest := []) (m_L_master l hfl Γ _ a b rf hrf f z F Z σ sc ss nb bb hX o og (xs (i + 1)) (xs (i + 2))) hE S k_L_master gL_law_L_master ⟨(Nat.le_of_ble_eq_true rfl), (Nat.le_of_ble_eq_true rfl)⟩ hK hP hD hS hA rfl hl.1 (Nat.le_of_ble_eq_true rfl) rfl dL_law_470 ⟨by show cells + 0 + 1 ≤ 625301; omega, by show slots + 0 + 6 ≤ 7220200; omega⟩ (fun r u H locs hr hP hD hS => ?_)
  obtain ⟨⟨f1, z1, F1, Z1⟩, og1⟩ := u
  obtain ⟨hr0, hr1, hr2⟩ := hr
  subst hr0
  have hP : gP Γ (wLw Γ a b rf f1 z1 F1 Z1 o og1 am v hh g) H := hP
  have hD : va_D (fun q : Nat => s.heap.size ≤ q) (wLw Γ a b rf f1 z1 F1 Z1 o og1 am v hh g) := hD
  refine lv_istore (lv' := [(5, .int (nI (maC (xs (i + 1)) (xs (i + 2))))), (0, .ref bs), (1, .ref (a 34)), (2, .ref (am 0)), (3, .ref o), (4, .int (nI i))]) hx hb dL_law_473 hl (by decide) rfl (fun ls hl => ?_)
  refine lv_aload_n hx hb dL_law_475 rfl (lv_at hl 3 rfl) ?_
  refine lv_aload_n hx hb dL_law_476 rfl (lv_at hl 1 rfl) ?_
  refine lv_iload hx hb dL_law_477 (lv_at hl 5 rfl) ?_
  refine lv_iconst (v := nI 1) hx hb dL_law_479 (by decide) ?_
  refine lv_iadd hx hb dL_law_480 ?_
  refine asi (z := nI (i + 1)) (nI_add _ _) ?_
  refine va_sld hx hb hX0 hbl hbA hS (vp_in_nI (by omega) (by omega)) dL_law_481 ?_
  refine asi (z := xs (i + 1)) (congrArg xs (nI_clamp (by omega))) ?_
  refine lv_aload_n hx hb dL_law_482 rfl (lv_at hl 1 rfl) ?_
  refine lv_iload hx hb dL_law_483 (lv_at hl 5 rfl) ?_
  refine lv_iconst (v := nI 2) hx hb dL_law_485 (by decide) ?_
  refine lv_iadd hx hb dL_law_486 ?_
  refine asi (z := nI (i + 2)) (nI_add _ _) ?_
  refine va_sld hx hb hX0 hbl hbA hS (vp_in_nI (by omega) (by omega)) dL_law_487 ?_
  refine asi (z := xs (i + 2)) (congrArg xs (nI_clamp (by omega))) ?_
  refine aWi (As := [.int (xs (i + 1)), .int (xs (i + 2))]) (rest := []) (wr := (o, oC Γ og1) :: wXo Γ a b rf f1 z1 F1 Z1) (m_X9_master l Γ _ am v hh g σ sc ss nb bb hM (xs (i + 1)) (xs (i + 2))) S k_X9_master gL_law_X9_master rfl ⟨(Nat.le_of_ble_eq_true rfl), (Nat.le_of_ble_eq_true rfl)⟩ hK (gP_sw hP) (gD_sw hD) hS hA 0 (ci := 9) rfl rfl rfl rfl hl.1 (Nat.le_of_ble_eq_true rfl) rfl dL_law_488 ⟨by show cells + 1 + 0 ≤ 625301; omega, by show slots + 6 + 0 ≤ 7220200; omega⟩ (fun r u H locs hr hP hD hS => ?_)
  obtain ⟨v1, hh1, g1⟩ := u
  have hP : gP Γ (wLw Γ a b rf f1 z1 F1 Z1 o og1 am v1 hh1 g1) H := gP_sw (w1 := wMd Γ am v1 hh1 g1) hP
  have hD : va_D (fun q : Nat => s.heap.size ≤ q) (wLw Γ a b rf f1 z1 F1 Z1 o og1 am v1 hh1 g1) := gD_sw (w1 := wMd Γ am v1 hh1 g1) hD
  obtain ⟨ht0, hm1, hm2⟩ := hr
  refine lv_istore (lv' := [(6, .int r), (5, .int (nI (maC (xs (i + 1)) (xs (i + 2))))), (0, .ref bs), (1, .ref (a 34)), (2, .ref (am 0)), (3, .ref o), (4, .int (nI i))]) hx hb dL_law_491 hl (by decide) rfl (fun ls hl => ?_)
  refine lv_aload_n hx hb dL_law_493 rfl (lv_at hl 4 rfl) ?_
  refine rRi (As := []) (rest := []) (wr := (o, oC Γ og1) :: wXo Γ a b rf f1 z1 F1 Z1) (m_X9_thrown l Γ am v1 hh1 g1) S k_X9_thrown gL_law_X9_thrown rfl ⟨(Nat.le_of_ble_eq_true rfl), (Nat.le_of_ble_eq_true rfl)⟩ hK (gP_sw hP) 0 (ci := 9) rfl rfl rfl rfl hl.1 (Nat.le_of_ble_eq_true rfl) rfl dL_law_494 ⟨by show cells + 1 ≤ 625301; omega, by show slots + 6 ≤ 7220200; omega⟩ (fun t ht => ?_)
  subst ht
  refine asi (z := nI (maC (xs (i + 1)) (xs (i + 2)))) ht0 ?_
  refine lv_iload hx hb dL_law_497 (lv_at hl 1 rfl) ?_
  refine lv_icmp_eq (tgt := 504) hx hb dL_law_499 (by decide) (fun _ => ?_) (fun c => absurd rfl c)
  refine lv_iload hx hb dL_law_504 (lv_at hl 1 rfl) ?_
  have hcle : maC (xs (i + 1)) (xs (i + 2)) < 2 ^ 31 := by unfold maC; (repeat' split) <;> decide
  refine lv_if_ne (tgt := 521) hx hb dL_law_506 (by decide) (fun ck => ?_) (fun ck => ?_)
  · have hk : ¬ maC (xs (i + 1)) (xs (i + 2)) = 0 := fun h => ck (by rw [h]; rfl)
    refine lv_goto (tgt := 1710) hx hb dL_law_521 (by decide) ?_
    refine W.widen (k := cells + 2) (n := slots + 12) (by omega) (by omega) ?_
    exact KK _ _ _ ⟨f1, z1, F1, Z1, og1, v1, hh1, g1, _, _, _, _, _, (hr2 hk), (hm2 hk).2, hP, hD, hS⟩ (lv_sub hl [2, 3, 4, 5, 6] rfl)
  · have hk : maC (xs (i + 1)) (xs (i + 2)) = 0 := (nI_eq (a := maC (xs (i + 1)) (xs (i + 2))) (b := 0) hcle (by decide)).mp ck
    obtain ⟨ho1, hX1⟩ := hr1 hk
    obtain ⟨hr6, hM1⟩ := hm1 hk
    subst hr6
    have hl : lv_has ls 9 [(6, .int (mI (oP σ (xs (i + 1)).toNatClampNeg 2))), (5, .int (nI (maC (xs (i + 1)) (xs (i + 2))))), (0, .ref bs), (1, .ref (a 34)), (2, .ref (am 0)), (3, .ref o), (4, .int (nI i))] := hl
    refine lv_aload_n hx hb dL_law_509 rfl (lv_at hl 5 rfl) ?_
    refine lv_iconst (v := nI 0) hx hb dL_law_510 (by decide) ?_
    refine va_lald hx hb hK hP 0 2 rfl rfl (vp_in_nI (by omega) (by omega)) dL_law_511 ?_
    refine asl (z := (mI (oP σ (xs (i + 1)).toNatClampNeg 2)).toInt64) ((congrArg og1 (nI_clamp (by omega))).trans ho1) ?_
    refine lv_iload hx hb dL_law_512 (lv_at hl 0 rfl) ?_
    refine lv_i2l (v := (mI (oP σ (xs (i + 1)).toNatClampNeg 2)).toInt64) hx hb dL_law_514 rfl ?_
    refine rLcmp hx hb dL_law_515 ?_
    refine lv_if_eq (tgt := 521) hx hb dL_law_516 (by decide) (fun _ => ?_) (fun c => absurd rfl c)
    refine lv_goto (tgt := 1710) hx hb dL_law_521 (by decide) ?_
    refine W.widen (k := cells + 2) (n := slots + 12) (by omega) (by omega) ?_
    exact KK _ _ _ ⟨f1, z1, F1, Z1, og1, v1, hh1, g1, _, _, _, _, _, hX1, hM1, hP, hD, hS⟩ (lv_sub hl [2, 3, 4, 5, 6] rfl)

set_option maxHeartbeats 4000000 in
set_option maxRecDepth 100000 in
theorem lw_s_force {p : Program} {l : Launch} {e : Env} {s : State} {m : MethodId} {below : List Frame} {meth : Method} {c : Code} {bs L : Nat} {xs : Nat → Int32} {Q : State → Prop} (C0 : lw_At p s m meth c bs L xs) (hfl : l.stackTraces = false) (hL : L ≤ 3072) {Γ : Gm} (hK : gK Γ s) (hE : gE (fun q : Nat => s.heap.size ≤ q) s) {a : Nat → Nat} {b : Nat → Nat → Nat} {rf : Nat → Option Nat} (hrf : ∀ i, i < 6 → rf i = some (b i 0)) {am : Nat → Nat} {o i : Nat} (hi : i + 6 ≤ L) {cells slots : Nat} (hc : cells + 2 ≤ 625301) (hs : slots + 12 ≤ 7220200) {H : Heap} {locs : List Loc} (hI : SI Γ s a b rf am o H locs) {ls : Array Slot} (hl : lv_has ls 9 (LVs bs (a 34) (am 0) o i)) (KK : ∀ (H : Heap) (locs : List Loc) (ls : Array Slot), SI Γ s a b rf am o H locs → lv_has ls 9 (LVs bs (a 34) (am 0) o i) → W p l e room_1 s m #[Value.ref bs] below meth c H locs (cells + 2) (slots + 12) Q (F0 m 1710 ls [])) : W p l e room_1 s m #[Value.ref bs] below meth c H locs cells slots Q (F0 m 524 ls []) := by
  obtain ⟨hx, hb, hrt, hml, hown, hts0, hX0, hbl, hlk, hgv⟩ := id C0
  have hts : ∀ w ∈ wsL_law, w.before #[Value.ref bs] s = true := fun w h => hts0 w (wsL_law_in w h)
  have S : CallFix p m c cL_law 9 s #[Value.ref bs] wsL_law RL := ⟨hx, hb, hml, hown, hts⟩
  have hA : ∀ q : Nat, s.heap.size ≤ q → (fun q : Nat => s.heap.size ≤ q) q := fun _ h => h
  have hbA : ¬ (fun q : Nat => s.heap.size ≤ q) bs := Nat.not_le.mpr hbl
  obtain ⟨f, z, F, Z, og, v, hh, g, σ, sc, ss, nb, bb, hX, hM, hP, hD, hS⟩ := hI
  have hl : lv_has ls 9 [(0, .ref bs), (1, .ref (a 34)), (2, .ref (am 0)), (3, .ref o), (4, .int (nI i))] := hl
  by_cases hz : xs (i + 2) = 0
  · refine lv_aload_n hx hb dL_law_524 rfl (lv_at hl 1 rfl) ?_
    refine lv_aload_n hx hb dL_law_525 rfl (lv_at hl 0 rfl) ?_
    refine lv_iload hx hb dL_law_526 (lv_at hl 4 rfl) ?_
    refine lv_iconst (v := nI 1) hx hb dL_law_528 (by decide) ?_
    refine lv_iadd hx hb dL_law_529 ?_
    refine asi (z := nI (i + 1)) (nI_add _ _) ?_
    refine va_sld hx hb hX0 hbl hbA hS (vp_in_nI (by omega) (by omega)) dL_law_530 ?_
    refine asi (z := xs (i + 1)) (congrArg xs (nI_clamp (by omega))) ?_
    refine lv_aload_n hx hb dL_law_531 rfl (lv_at hl 0 rfl) ?_
    refine lv_iload hx hb dL_law_532 (lv_at hl 4 rfl) ?_
    refine lv_iconst (v := nI 2) hx hb dL_law_534 (by decide) ?_
    refine lv_iadd hx hb dL_law_535 ?_
    refine asi (z := nI (i + 2)) (nI_add _ _) ?_
    refine va_sld hx hb hX0 hbl hbA hS (vp_in_nI (by omega) (by omega)) dL_law_536 ?_
    refine asi (z := xs (i + 2)) (congrArg xs (nI_clamp (by omega))) ?_
    refine lv_if_eq (tgt := 544) hx hb dL_law_537 (by decide) (fun _ => ?_) (fun c => absurd hz c)
    refine lv_iconst (v := bI false) hx hb dL_law_544 (by decide) ?_
    refine lv_aload_n hx hb dL_law_545 rfl (lv_at hl 3 rfl) ?_
    refine hCi (As := [.ref (a 34), .int (xs (i + 1)), .int (bI false), .ref o]) (rest := []) (m_L_force l hfl Γ _ a b rf hrf f z F Z σ sc ss nb bb hX o og (xs (i + 1)) false) hE S k_L_force gL_law_L_force ⟨(Nat.le_of_ble_eq_true rfl), (Nat.le_of_ble_eq_true rfl)⟩ hK hP hD hS hA rfl hl.1 (Nat.le_of_ble_eq_true rfl) rfl dL_law_546 ⟨by show cells + 0 + 1 ≤ 625301; omega, by show slots + 0 + 6 ≤ 7220200; omega⟩ (fun r u H locs hr hP hD hS => ?_)
    obtain ⟨⟨f1, z1, F1, Z1⟩, og1⟩ := u
    obtain ⟨hr0, hr1, hr2⟩ := hr
    subst hr0
    have hP : gP Γ (wLw Γ a b rf f1 z1 F1 Z1 o og1 am v hh g) H := hP
    have hD : va_D (fun q : Nat => s.heap.size ≤ q) (wLw Γ a b rf f1 z1 F1 Z1 o og1 am v hh g) := hD
    refine lv_istore (lv' := [(5, .int (nI (foC (xs (i + 1))))), (0, .ref bs), (1, .ref (a 34)), (2, .ref (am 0)), (3, .ref o), (4, .int (nI i))]) hx hb dL_law_549 hl (by decide) rfl (fun ls hl => ?_)
    refine lv_aload_n hx hb dL_law_551 rfl (lv_at hl 3 rfl) ?_
    refine lv_aload_n hx hb dL_law_552 rfl (lv_at hl 1 rfl) ?_
    refine lv_iload hx hb dL_law_553 (lv_at hl 5 rfl) ?_
    refine lv_iconst (v := nI 1) hx hb dL_law_555 (by decide) ?_
    refine lv_iadd hx hb dL_law_556 ?_
    refine asi (z := nI (i + 1)) (nI_add _ _) ?_
    refine va_sld hx hb hX0 hbl hbA hS (vp_in_nI (by omega) (by omega)) dL_law_557 ?_
    refine asi (z := xs (i + 1)) (congrArg xs (nI_clamp (by omega))) ?_
    refine lv_aload_n hx hb dL_law_558 rfl (lv_at hl 1 rfl) ?_
    refine lv_iload hx hb dL_law_559 (lv_at hl 5 rfl) ?_
    refine lv_iconst (v := nI 2) hx hb dL_law_561 (by decide) ?_
    refine lv_iadd hx hb dL_law_562 ?_
    refine asi (z := nI (i + 2)) (nI_add _ _) ?_
    refine va_sld hx hb hX0 hbl hbA hS (vp_in_nI (by omega) (by omega)) dL_law_563 ?_
    refine asi (z := xs (i + 2)) (congrArg xs (nI_clamp (by omega))) ?_
    refine lv_if_eq (tgt := 571) hx hb dL_law_564 (by decide) (fun _ => ?_) (fun c => absurd hz c)
    refine lv_iconst (v := bI false) hx hb dL_law_571 (by decide) ?_
    refine aWi (As := [.int (xs (i + 1)), .int (bI false)]) (rest := []) (wr := (o, oC Γ og1) :: wXo Γ a b rf f1 z1 F1 Z1) (m_X9_force l Γ _ am v hh g σ sc ss nb bb hM (xs (i + 1)) false) S k_X9_force gL_law_X9_force rfl ⟨(Nat.le_of_ble_eq_true rfl), (Nat.le_of_ble_eq_true rfl)⟩ hK (gP_sw hP) (gD_sw hD) hS hA 0 (ci := 9) rfl rfl rfl rfl hl.1 (Nat.le_of_ble_eq_true rfl) rfl dL_law_572 ⟨by show cells + 1 + 0 ≤ 625301; omega, by show slots + 6 + 0 ≤ 7220200; omega⟩ (fun r u H locs hr hP hD hS => ?_)
    obtain ⟨v1, hh1, g1⟩ := u
    have hP : gP Γ (wLw Γ a b rf f1 z1 F1 Z1 o og1 am v1 hh1 g1) H := gP_sw (w1 := wMd Γ am v1 hh1 g1) hP
    have hD : va_D (fun q : Nat => s.heap.size ≤ q) (wLw Γ a b rf f1 z1 F1 Z1 o og1 am v1 hh1 g1) := gD_sw (w1 := wMd Γ am v1 hh1 g1) hD
    obtain ⟨ht0, hm1, hm2⟩ := hr
    refine lv_istore (lv' := [(6, .int r), (5, .int (nI (foC (xs (i + 1))))), (0, .ref bs), (1, .ref (a 34)), (2, .ref (am 0)), (3, .ref o), (4, .int (nI i))]) hx hb dL_law_575 hl (by decide) rfl (fun ls hl => ?_)
    refine lv_aload_n hx hb dL_law_577 rfl (lv_at hl 4 rfl) ?_
    refine rRi (As := []) (rest := []) (wr := (o, oC Γ og1) :: wXo Γ a b rf f1 z1 F1 Z1) (m_X9_thrown l Γ am v1 hh1 g1) S k_X9_thrown gL_law_X9_thrown rfl ⟨(Nat.le_of_ble_eq_true rfl), (Nat.le_of_ble_eq_true rfl)⟩ hK (gP_sw hP) 0 (ci := 9) rfl rfl rfl rfl hl.1 (Nat.le_of_ble_eq_true rfl) rfl dL_law_578 ⟨by show cells + 1 ≤ 625301; omega, by show slots + 6 ≤ 7220200; omega⟩ (fun t ht => ?_)
    subst ht
    refine asi (z := nI (foC (xs (i + 1)))) ht0 ?_
    refine lv_iload hx hb dL_law_581 (lv_at hl 1 rfl) ?_
    refine lv_icmp_eq (tgt := 588) hx hb dL_law_583 (by decide) (fun _ => ?_) (fun c => absurd rfl c)
    refine lv_iload hx hb dL_law_588 (lv_at hl 1 rfl) ?_
    have hcle : foC (xs (i + 1)) < 2 ^ 31 := by unfold foC; (repeat' split) <;> decide
    refine lv_if_ne (tgt := 605) hx hb dL_law_590 (by decide) (fun ck => ?_) (fun ck => ?_)
    · have hk : ¬ foC (xs (i + 1)) = 0 := fun h => ck (by rw [h]; rfl)
      refine lv_goto (tgt := 1710) hx hb dL_law_605 (by decide) ?_
      refine W.widen (k := cells + 2) (n := slots + 12) (by omega) (by omega) ?_
      exact KK _ _ _ ⟨f1, z1, F1, Z1, og1, v1, hh1, g1, _, _, _, _, _, (hr2 hk), (hm2 hk).2, hP, hD, hS⟩ (lv_sub hl [2, 3, 4, 5, 6] rfl)
    · have hk : foC (xs (i + 1)) = 0 := (nI_eq (a := foC (xs (i + 1))) (b := 0) hcle (by decide)).mp ck
      obtain ⟨ho1, hX1⟩ := hr1 hk
      obtain ⟨hr6, hM1⟩ := hm1 hk
      subst hr6
      have hl : lv_has ls 9 [(6, .int (nI ((σ 1 >>> (xs (i + 1)).toNatClampNeg) % 2))), (5, .int (nI (foC (xs (i + 1))))), (0, .ref bs), (1, .ref (a 34)), (2, .ref (am 0)), (3, .ref o), (4, .int (nI i))] := hl
      refine lv_aload_n hx hb dL_law_593 rfl (lv_at hl 5 rfl) ?_
      refine lv_iconst (v := nI 0) hx hb dL_law_594 (by decide) ?_
      refine va_lald hx hb hK hP 0 2 rfl rfl (vp_in_nI (by omega) (by omega)) dL_law_595 ?_
      refine asl (z := (nI ((σ 1 >>> (xs (i + 1)).toNatClampNeg) % 2)).toInt64) ((congrArg og1 (nI_clamp (by omega))).trans ho1) ?_
      refine lv_iload hx hb dL_law_596 (lv_at hl 0 rfl) ?_
      refine lv_i2l (v := (nI ((σ 1 >>> (xs (i + 1)).toNatClampNeg) % 2)).toInt64) hx hb dL_law_598 rfl ?_
      refine rLcmp hx hb dL_law_599 ?_
      refine lv_if_eq (tgt := 605) hx hb dL_law_600 (by decide) (fun _ => ?_) (fun c => absurd rfl c)
      refine lv_goto (tgt := 1710) hx hb dL_law_605 (by decide) ?_
      refine W.widen (k := cells + 2) (n := slots + 12) (by omega) (by omega) ?_
      exact KK _ _ _ ⟨f1, z1, F1, Z1, og1, v1, hh1, g1, _, _, _, _, _, hX1, hM1, hP, hD, hS⟩ (lv_sub hl [2, 3, 4, 5, 6] rfl)
  · refine lv_aload_n hx hb dL_law_524 rfl (lv_at hl 1 rfl) ?_
    refine lv_aload_n hx hb dL_law_525 rfl (lv_at hl 0 rfl) ?_
    refine lv_iload hx hb dL_law_526 (lv_at hl 4 rfl) ?_
    refine lv_iconst (v := nI 1) hx hb dL_law_528 (by decide) ?_
    refine lv_iadd hx hb dL_law_529 ?_
    refine asi (z := nI (i + 1)) (nI_add _ _) ?_
    refine va_sld hx hb hX0 hbl hbA hS (vp_in_nI (by omega) (by omega)) dL_law_530 ?_
    refine asi (z := xs (i + 1)) (congrArg xs (nI_clamp (by omega))) ?_
    refine lv_aload_n hx hb dL_law_531 rfl (lv_at hl 0 rfl) ?_
    refine lv_iload hx hb dL_law_532 (lv_at hl 4 rfl) ?_
    refine lv_iconst (v := nI 2) hx hb dL_law_534 (by decide) ?_
    refine lv_iadd hx hb dL_law_535 ?_
    refine asi (z := nI (i + 2)) (nI_add _ _) ?_
    refine va_sld hx hb hX0 hbl hbA hS (vp_in_nI (by omega) (by omega)) dL_law_536 ?_
    refine asi (z := xs (i + 2)) (congrArg xs (nI_clamp (by omega))) ?_
    refine lv_if_eq (tgt := 544) hx hb dL_law_537 (by decide) (fun c => absurd c hz) (fun _ => ?_)
    refine lv_iconst (v := bI true) hx hb dL_law_540 (by decide) ?_
    refine lv_goto (tgt := 545) hx hb dL_law_541 (by decide) ?_
    refine lv_aload_n hx hb dL_law_545 rfl (lv_at hl 3 rfl) ?_
    refine hCi (As := [.ref (a 34), .int (xs (i + 1)), .int (bI true), .ref o]) (rest := []) (m_L_force l hfl Γ _ a b rf hrf f z F Z σ sc ss nb bb hX o og (xs (i + 1)) true) hE S k_L_force gL_law_L_force ⟨(Nat.le_of_ble_eq_true rfl), (Nat.le_of_ble_eq_true rfl)⟩ hK hP hD hS hA rfl hl.1 (Nat.le_of_ble_eq_true rfl) rfl dL_law_546 ⟨by show cells + 0 + 1 ≤ 625301; omega, by show slots + 0 + 6 ≤ 7220200; omega⟩ (fun r u H locs hr hP hD hS => ?_)
    obtain ⟨⟨f1, z1, F1, Z1⟩, og1⟩ := u
    obtain ⟨hr0, hr1, hr2⟩ := hr
    subst hr0
    have hP : gP Γ (wLw Γ a b rf f1 z1 F1 Z1 o og1 am v hh g) H := hP
    have hD : va_D (fun q : Nat => s.heap.size ≤ q) (wLw Γ a b rf f1 z1 F1 Z1 o og1 am v hh g) := hD
    refine lv_istore (lv' := [(5, .int (nI (foC (xs (i + 1))))), (0, .ref bs), (1, .ref (a 34)), (2, .ref (am 0)), (3, .ref o), (4, .int (nI i))]) hx hb dL_law_549 hl (by decide) rfl (fun ls hl => ?_)
    refine lv_aload_n hx hb dL_law_551 rfl (lv_at hl 3 rfl) ?_
    refine lv_aload_n hx hb dL_law_552 rfl (lv_at hl 1 rfl) ?_
    refine lv_iload hx hb dL_law_553 (lv_at hl 5 rfl) ?_
    refine lv_iconst (v := nI 1) hx hb dL_law_555 (by decide) ?_
    refine lv_iadd hx hb dL_law_556 ?_
    refine asi (z := nI (i + 1)) (nI_add _ _) ?_
    refine va_sld hx hb hX0 hbl hbA hS (vp_in_nI (by omega) (by omega)) dL_law_557 ?_
    refine asi (z := xs (i + 1)) (congrArg xs (nI_clamp (by omega))) ?_
    refine lv_aload_n hx hb dL_law_558 rfl (lv_at hl 1 rfl) ?_
    refine lv_iload hx hb dL_law_559 (lv_at hl 5 rfl) ?_
    refine lv_iconst (v := nI 2) hx hb dL_law_561 (by decide) ?_
    refine lv_iadd hx hb dL_law_562 ?_
    refine asi (z := nI (i + 2)) (nI_add _ _) ?_
    refine va_sld hx hb hX0 hbl hbA hS (vp_in_nI (by omega) (by omega)) dL_law_563 ?_
    refine asi (z := xs (i + 2)) (congrArg xs (nI_clamp (by omega))) ?_
    refine lv_if_eq (tgt := 571) hx hb dL_law_564 (by decide) (fun c => absurd c hz) (fun _ => ?_)
    refine lv_iconst (v := bI true) hx hb dL_law_567 (by decide) ?_
    refine lv_goto (tgt := 572) hx hb dL_law_568 (by decide) ?_
    refine aWi (As := [.int (xs (i + 1)), .int (bI true)]) (rest := []) (wr := (o, oC Γ og1) :: wXo Γ a b rf f1 z1 F1 Z1) (m_X9_force l Γ _ am v hh g σ sc ss nb bb hM (xs (i + 1)) true) S k_X9_force gL_law_X9_force rfl ⟨(Nat.le_of_ble_eq_true rfl), (Nat.le_of_ble_eq_true rfl)⟩ hK (gP_sw hP) (gD_sw hD) hS hA 0 (ci := 9) rfl rfl rfl rfl hl.1 (Nat.le_of_ble_eq_true rfl) rfl dL_law_572 ⟨by show cells + 1 + 0 ≤ 625301; omega, by show slots + 6 + 0 ≤ 7220200; omega⟩ (fun r u H locs hr hP hD hS => ?_)
    obtain ⟨v1, hh1, g1⟩ := u
    have hP : gP Γ (wLw Γ a b rf f1 z1 F1 Z1 o og1 am v1 hh1 g1) H := gP_sw (w1 := wMd Γ am v1 hh1 g1) hP
    have hD : va_D (fun q : Nat => s.heap.size ≤ q) (wLw Γ a b rf f1 z1 F1 Z1 o og1 am v1 hh1 g1) := gD_sw (w1 := wMd Γ am v1 hh1 g1) hD
    obtain ⟨ht0, hm1, hm2⟩ := hr
    refine lv_istore (lv' := [(6, .int r), (5, .int (nI (foC (xs (i + 1))))), (0, .ref bs), (1, .ref (a 34)), (2, .ref (am 0)), (3, .ref o), (4, .int (nI i))]) hx hb dL_law_575 hl (by decide) rfl (fun ls hl => ?_)
    refine lv_aload_n hx hb dL_law_577 rfl (lv_at hl 4 rfl) ?_
    refine rRi (As := []) (rest := []) (wr := (o, oC Γ og1) :: wXo Γ a b rf f1 z1 F1 Z1) (m_X9_thrown l Γ am v1 hh1 g1) S k_X9_thrown gL_law_X9_thrown rfl ⟨(Nat.le_of_ble_eq_true rfl), (Nat.le_of_ble_eq_true rfl)⟩ hK (gP_sw hP) 0 (ci := 9) rfl rfl rfl rfl hl.1 (Nat.le_of_ble_eq_true rfl) rfl dL_law_578 ⟨by show cells + 1 ≤ 625301; omega, by show slots + 6 ≤ 7220200; omega⟩ (fun t ht => ?_)
    subst ht
    refine asi (z := nI (foC (xs (i + 1)))) ht0 ?_
    refine lv_iload hx hb dL_law_581 (lv_at hl 1 rfl) ?_
    refine lv_icmp_eq (tgt := 588) hx hb dL_law_583 (by decide) (fun _ => ?_) (fun c => absurd rfl c)
    refine lv_iload hx hb dL_law_588 (lv_at hl 1 rfl) ?_
    have hcle : foC (xs (i + 1)) < 2 ^ 31 := by unfold foC; (repeat' split) <;> decide
    refine lv_if_ne (tgt := 605) hx hb dL_law_590 (by decide) (fun ck => ?_) (fun ck => ?_)
    · have hk : ¬ foC (xs (i + 1)) = 0 := fun h => ck (by rw [h]; rfl)
      refine lv_goto (tgt := 1710) hx hb dL_law_605 (by decide) ?_
      refine W.widen (k := cells + 2) (n := slots + 12) (by omega) (by omega) ?_
      exact KK _ _ _ ⟨f1, z1, F1, Z1, og1, v1, hh1, g1, _, _, _, _, _, (hr2 hk), (hm2 hk).2, hP, hD, hS⟩ (lv_sub hl [2, 3, 4, 5, 6] rfl)
    · have hk : foC (xs (i + 1)) = 0 := (nI_eq (a := foC (xs (i + 1))) (b := 0) hcle (by decide)).mp ck
      obtain ⟨ho1, hX1⟩ := hr1 hk
      obtain ⟨hr6, hM1⟩ := hm1 hk
      subst hr6
      have hl : lv_has ls 9 [(6, .int (nI ((σ 1 >>> (xs (i + 1)).toNatClampNeg) % 2))), (5, .int (nI (foC (xs (i + 1))))), (0, .ref bs), (1, .ref (a 34)), (2, .ref (am 0)), (3, .ref o), (4, .int (nI i))] := hl
      refine lv_aload_n hx hb dL_law_593 rfl (lv_at hl 5 rfl) ?_
      refine lv_iconst (v := nI 0) hx hb dL_law_594 (by decide) ?_
      refine va_lald hx hb hK hP 0 2 rfl rfl (vp_in_nI (by omega) (by omega)) dL_law_595 ?_
      refine asl (z := (nI ((σ 1 >>> (xs (i + 1)).toNatClampNeg) % 2)).toInt64) ((congrArg og1 (nI_clamp (by omega))).trans ho1) ?_
      refine lv_iload hx hb dL_law_596 (lv_at hl 0 rfl) ?_
      refine lv_i2l (v := (nI ((σ 1 >>> (xs (i + 1)).toNatClampNeg) % 2)).toInt64) hx hb dL_law_598 rfl ?_
      refine rLcmp hx hb dL_law_599 ?_
      refine lv_if_eq (tgt := 605) hx hb dL_law_600 (by decide) (fun _ => ?_) (fun c => absurd rfl c)
      refine lv_goto (tgt := 1710) hx hb dL_law_605 (by decide) ?_
      refine W.widen (k := cells + 2) (n := slots + 12) (by omega) (by omega) ?_
      exact KK _ _ _ ⟨f1, z1, F1, Z1, og1, v1, hh1, g1, _, _, _, _, _, hX1, hM1, hP, hD, hS⟩ (lv_sub hl [2, 3, 4, 5, 6] rfl)

set_option maxHeartbeats 4000000 in
set_option maxRecDepth 100000 in
theorem lw_s_set {p : Program} {l : Launch} {e : Env} {s : State} {m : MethodId} {below : List Frame} {meth : Method} {c : Code} {bs L : Nat} {xs : Nat → Int32} {Q : State → Prop} (C0 : lw_At p s m meth c bs L xs) (hfl : l.stackTraces = false) (hL : L ≤ 3072) {Γ : Gm} (hK : gK Γ s) (hE : gE (fun q : Nat => s.heap.size ≤ q) s) {a : Nat → Nat} {b : Nat → Nat → Nat} {rf : Nat → Option Nat} (hrf : ∀ i, i < 6 → rf i = some (b i 0)) {am : Nat → Nat} {o i : Nat} (hi : i + 6 ≤ L) {cells slots : Nat} (hc : cells + 2 ≤ 625301) (hs : slots + 12 ≤ 7220200) {H : Heap} {locs : List Loc} (hI : SI Γ s a b rf am o H locs) {ls : Array Slot} (hl : lv_has ls 9 (LVs bs (a 34) (am 0) o i)) (KK : ∀ (H : Heap) (locs : List Loc) (ls : Array Slot), SI Γ s a b rf am o H locs → lv_has ls 9 (LVs bs (a 34) (am 0) o i) → W p l e room_1 s m #[Value.ref bs] below meth c H locs (cells + 2) (slots + 12) Q (F0 m 1710 ls [])) : W p l e room_1 s m #[Value.ref bs] below meth c H locs cells slots Q (F0 m 608 ls []) := by
  obtain ⟨hx, hb, hrt, hml, hown, hts0, hX0, hbl, hlk, hgv⟩ := id C0
  have hts : ∀ w ∈ wsL_law, w.before #[Value.ref bs] s = true := fun w h => hts0 w (wsL_law_in w h)
  have S : CallFix p m c cL_law 9 s #[Value.ref bs] wsL_law RL := ⟨hx, hb, hml, hown, hts⟩
  have hA : ∀ q : Nat, s.heap.size ≤ q → (fun q : Nat => s.heap.size ≤ q) q := fun _ h => h
  have hbA : ¬ (fun q : Nat => s.heap.size ≤ q) bs := Nat.not_le.mpr hbl
  obtain ⟨f, z, F, Z, og, v, hh, g, σ, sc, ss, nb, bb, hX, hM, hP, hD, hS⟩ := hI
  have hl : lv_has ls 9 [(0, .ref bs), (1, .ref (a 34)), (2, .ref (am 0)), (3, .ref o), (4, .int (nI i))] := hl
  refine lv_aload_n hx hb dL_law_608 rfl (lv_at hl 1 rfl) ?_
  refine lv_aload_n hx hb dL_law_609 rfl (lv_at hl 0 rfl) ?_
  refine lv_iload hx hb dL_law_610 (lv_at hl 4 rfl) ?_
  refine lv_iconst (v := nI 1) hx hb dL_law_612 (by decide) ?_
  refine lv_iadd hx hb dL_law_613 ?_
  refine asi (z := nI (i + 1)) (nI_add _ _) ?_
  refine va_sld hx hb hX0 hbl hbA hS (vp_in_nI (by omega) (by omega)) dL_law_614 ?_
  refine asi (z := xs (i + 1)) (congrArg xs (nI_clamp (by omega))) ?_
  refine lv_aload_n hx hb dL_law_615 rfl (lv_at hl 0 rfl) ?_
  refine lv_iload hx hb dL_law_616 (lv_at hl 4 rfl) ?_
  refine lv_iconst (v := nI 2) hx hb dL_law_618 (by decide) ?_
  refine lv_iadd hx hb dL_law_619 ?_
  refine asi (z := nI (i + 2)) (nI_add _ _) ?_
  refine va_sld hx hb hX0 hbl hbA hS (vp_in_nI (by omega) (by omega)) dL_law_620 ?_
  refine asi (z := xs (i + 2)) (congrArg xs (nI_clamp (by omega))) ?_
  refine lv_aload_n hx hb dL_law_621 rfl (lv_at hl 3 rfl) ?_
  refine hCi (As := [.ref (a 34), .int (xs (i + 1)), .int (xs (i + 2)), .ref o]) (rest := []) (m_L_set l hfl Γ _ a b rf hrf f z F Z σ sc ss nb bb hX o og (xs (i + 1)) (xs (i + 2))) hE S k_L_set gL_law_L_set ⟨(Nat.le_of_ble_eq_true rfl), (Nat.le_of_ble_eq_true rfl)⟩ hK hP hD hS hA rfl hl.1 (Nat.le_of_ble_eq_true rfl) rfl dL_law_622 ⟨by show cells + 0 + 1 ≤ 625301; omega, by show slots + 0 + 6 ≤ 7220200; omega⟩ (fun r u H locs hr hP hD hS => ?_)
  obtain ⟨⟨f1, z1, F1, Z1⟩, og1⟩ := u
  obtain ⟨hr0, hr1, hr2⟩ := hr
  subst hr0
  have hP : gP Γ (wLw Γ a b rf f1 z1 F1 Z1 o og1 am v hh g) H := hP
  have hD : va_D (fun q : Nat => s.heap.size ≤ q) (wLw Γ a b rf f1 z1 F1 Z1 o og1 am v hh g) := hD
  refine lv_istore (lv' := [(5, .int (nI (seC (xs (i + 1)) (xs (i + 2))))), (0, .ref bs), (1, .ref (a 34)), (2, .ref (am 0)), (3, .ref o), (4, .int (nI i))]) hx hb dL_law_625 hl (by decide) rfl (fun ls hl => ?_)
  refine lv_aload_n hx hb dL_law_627 rfl (lv_at hl 3 rfl) ?_
  refine lv_aload_n hx hb dL_law_628 rfl (lv_at hl 1 rfl) ?_
  refine lv_iload hx hb dL_law_629 (lv_at hl 5 rfl) ?_
  refine lv_iconst (v := nI 1) hx hb dL_law_631 (by decide) ?_
  refine lv_iadd hx hb dL_law_632 ?_
  refine asi (z := nI (i + 1)) (nI_add _ _) ?_
  refine va_sld hx hb hX0 hbl hbA hS (vp_in_nI (by omega) (by omega)) dL_law_633 ?_
  refine asi (z := xs (i + 1)) (congrArg xs (nI_clamp (by omega))) ?_
  refine lv_aload_n hx hb dL_law_634 rfl (lv_at hl 1 rfl) ?_
  refine lv_iload hx hb dL_law_635 (lv_at hl 5 rfl) ?_
  refine lv_iconst (v := nI 2) hx hb dL_law_637 (by decide) ?_
  refine lv_iadd hx hb dL_law_638 ?_
  refine asi (z := nI (i + 2)) (nI_add _ _) ?_
  refine va_sld hx hb hX0 hbl hbA hS (vp_in_nI (by omega) (by omega)) dL_law_639 ?_
  refine asi (z := xs (i + 2)) (congrArg xs (nI_clamp (by omega))) ?_
  refine aWi (As := [.int (xs (i + 1)), .int (xs (i + 2))]) (rest := []) (wr := (o, oC Γ og1) :: wXo Γ a b rf f1 z1 F1 Z1) (m_X9_set l Γ _ am v hh g σ sc ss nb bb hM (xs (i + 1)) (xs (i + 2))) S k_X9_set gL_law_X9_set rfl ⟨(Nat.le_of_ble_eq_true rfl), (Nat.le_of_ble_eq_true rfl)⟩ hK (gP_sw hP) (gD_sw hD) hS hA 0 (ci := 9) rfl rfl rfl rfl hl.1 (Nat.le_of_ble_eq_true rfl) rfl dL_law_640 ⟨by show cells + 1 + 0 ≤ 625301; omega, by show slots + 6 + 0 ≤ 7220200; omega⟩ (fun r u H locs hr hP hD hS => ?_)
  obtain ⟨v1, hh1, g1⟩ := u
  have hP : gP Γ (wLw Γ a b rf f1 z1 F1 Z1 o og1 am v1 hh1 g1) H := gP_sw (w1 := wMd Γ am v1 hh1 g1) hP
  have hD : va_D (fun q : Nat => s.heap.size ≤ q) (wLw Γ a b rf f1 z1 F1 Z1 o og1 am v1 hh1 g1) := gD_sw (w1 := wMd Γ am v1 hh1 g1) hD
  obtain ⟨ht0, hm1, hm2⟩ := hr
  refine lv_istore (lv' := [(6, .int r), (5, .int (nI (seC (xs (i + 1)) (xs (i + 2))))), (0, .ref bs), (1, .ref (a 34)), (2, .ref (am 0)), (3, .ref o), (4, .int (nI i))]) hx hb dL_law_643 hl (by decide) rfl (fun ls hl => ?_)
  refine lv_aload_n hx hb dL_law_645 rfl (lv_at hl 4 rfl) ?_
  refine rRi (As := []) (rest := []) (wr := (o, oC Γ og1) :: wXo Γ a b rf f1 z1 F1 Z1) (m_X9_thrown l Γ am v1 hh1 g1) S k_X9_thrown gL_law_X9_thrown rfl ⟨(Nat.le_of_ble_eq_true rfl), (Nat.le_of_ble_eq_true rfl)⟩ hK (gP_sw hP) 0 (ci := 9) rfl rfl rfl rfl hl.1 (Nat.le_of_ble_eq_true rfl) rfl dL_law_646 ⟨by show cells + 1 ≤ 625301; omega, by show slots + 6 ≤ 7220200; omega⟩ (fun t ht => ?_)
  subst ht
  refine asi (z := nI (seC (xs (i + 1)) (xs (i + 2)))) ht0 ?_
  refine lv_iload hx hb dL_law_649 (lv_at hl 1 rfl) ?_
  refine lv_icmp_eq (tgt := 656) hx hb dL_law_651 (by decide) (fun _ => ?_) (fun c => absurd rfl c)
  refine lv_iload hx hb dL_law_656 (lv_at hl 1 rfl) ?_
  have hcle : seC (xs (i + 1)) (xs (i + 2)) < 2 ^ 31 := by unfold seC; (repeat' split) <;> decide
  refine lv_if_ne (tgt := 673) hx hb dL_law_658 (by decide) (fun ck => ?_) (fun ck => ?_)
  · have hk : ¬ seC (xs (i + 1)) (xs (i + 2)) = 0 := fun h => ck (by rw [h]; rfl)
    refine lv_goto (tgt := 1710) hx hb dL_law_673 (by decide) ?_
    refine W.widen (k := cells + 2) (n := slots + 12) (by omega) (by omega) ?_
    exact KK _ _ _ ⟨f1, z1, F1, Z1, og1, v1, hh1, g1, _, _, _, _, _, (hr2 hk), (hm2 hk).2, hP, hD, hS⟩ (lv_sub hl [2, 3, 4, 5, 6] rfl)
  · have hk : seC (xs (i + 1)) (xs (i + 2)) = 0 := (nI_eq (a := seC (xs (i + 1)) (xs (i + 2))) (b := 0) hcle (by decide)).mp ck
    obtain ⟨ho1, hX1⟩ := hr1 hk
    obtain ⟨hr6, hM1⟩ := hm1 hk
    subst hr6
    have hl : lv_has ls 9 [(6, .int (nI (σ (2 + (xs (i + 1)).toNatClampNeg)))), (5, .int (nI (seC (xs (i + 1)) (xs (i + 2))))), (0, .ref bs), (1, .ref (a 34)), (2, .ref (am 0)), (3, .ref o), (4, .int (nI i))] := hl
    refine lv_aload_n hx hb dL_law_661 rfl (lv_at hl 5 rfl) ?_
    refine lv_iconst (v := nI 0) hx hb dL_law_662 (by decide) ?_
    refine va_lald hx hb hK hP 0 2 rfl rfl (vp_in_nI (by omega) (by omega)) dL_law_663 ?_
    refine asl (z := (nI (σ (2 + (xs (i + 1)).toNatClampNeg))).toInt64) ((congrArg og1 (nI_clamp (by omega))).trans ho1) ?_
    refine lv_iload hx hb dL_law_664 (lv_at hl 0 rfl) ?_
    refine lv_i2l (v := (nI (σ (2 + (xs (i + 1)).toNatClampNeg))).toInt64) hx hb dL_law_666 rfl ?_
    refine rLcmp hx hb dL_law_667 ?_
    refine lv_if_eq (tgt := 673) hx hb dL_law_668 (by decide) (fun _ => ?_) (fun c => absurd rfl c)
    refine lv_goto (tgt := 1710) hx hb dL_law_673 (by decide) ?_
    refine W.widen (k := cells + 2) (n := slots + 12) (by omega) (by omega) ?_
    exact KK _ _ _ ⟨f1, z1, F1, Z1, og1, v1, hh1, g1, _, _, _, _, _, hX1, hM1, hP, hD, hS⟩ (lv_sub hl [2, 3, 4, 5, 6] rfl)

set_option maxHeartbeats 4000000 in
set_option maxRecDepth 100000 in
theorem lw_s_ask {p : Program} {l : Launch} {e : Env} {s : State} {m : MethodId} {below : List Frame} {meth : Method} {c : Code} {bs L : Nat} {xs : Nat → Int32} {Q : State → Prop} (C0 : lw_At p s m meth c bs L xs) (hfl : l.stackTraces = false) (hL : L ≤ 3072) {Γ : Gm} (hK : gK Γ s) (hE : gE (fun q : Nat => s.heap.size ≤ q) s) {a : Nat → Nat} {b : Nat → Nat → Nat} {rf : Nat → Option Nat} (hrf : ∀ i, i < 6 → rf i = some (b i 0)) {am : Nat → Nat} {o i : Nat} (hi : i + 6 ≤ L) {cells slots : Nat} (hc : cells + 2 ≤ 625301) (hs : slots + 12 ≤ 7220200) {H : Heap} {locs : List Loc} (hI : SI Γ s a b rf am o H locs) {ls : Array Slot} (hl : lv_has ls 9 (LVs bs (a 34) (am 0) o i)) (KK : ∀ (H : Heap) (locs : List Loc) (ls : Array Slot), SI Γ s a b rf am o H locs → lv_has ls 9 (LVs bs (a 34) (am 0) o i) → W p l e room_1 s m #[Value.ref bs] below meth c H locs (cells + 2) (slots + 12) Q (F0 m 1710 ls [])) : W p l e room_1 s m #[Value.ref bs] below meth c H locs cells slots Q (F0 m 676 ls []) := by
  obtain ⟨hx, hb, hrt, hml, hown, hts0, hX0, hbl, hlk, hgv⟩ := id C0
  have hts : ∀ w ∈ wsL_law, w.before #[Value.ref bs] s = true := fun w h => hts0 w (wsL_law_in w h)
  have S : CallFix p m c cL_law 9 s #[Value.ref bs] wsL_law RL := ⟨hx, hb, hml, hown, hts⟩
  have hA : ∀ q : Nat, s.heap.size ≤ q → (fun q : Nat => s.heap.size ≤ q) q := fun _ h => h
  have hbA : ¬ (fun q : Nat => s.heap.size ≤ q) bs := Nat.not_le.mpr hbl
  obtain ⟨f, z, F, Z, og, v, hh, g, σ, sc, ss, nb, bb, hX, hM, hP, hD, hS⟩ := hI
  have hl : lv_has ls 9 [(0, .ref bs), (1, .ref (a 34)), (2, .ref (am 0)), (3, .ref o), (4, .int (nI i))] := hl
  refine lv_aload_n hx hb dL_law_676 rfl (lv_at hl 1 rfl) ?_
  refine lv_aload_n hx hb dL_law_677 rfl (lv_at hl 0 rfl) ?_
  refine lv_iload hx hb dL_law_678 (lv_at hl 4 rfl) ?_
  refine lv_iconst (v := nI 1) hx hb dL_law_680 (by decide) ?_
  refine lv_iadd hx hb dL_law_681 ?_
  refine asi (z := nI (i + 1)) (nI_add _ _) ?_
  refine va_sld hx hb hX0 hbl hbA hS (vp_in_nI (by omega) (by omega)) dL_law_682 ?_
  refine asi (z := xs (i + 1)) (congrArg xs (nI_clamp (by omega))) ?_
  refine lv_aload_n hx hb dL_law_683 rfl (lv_at hl 0 rfl) ?_
  refine lv_iload hx hb dL_law_684 (lv_at hl 4 rfl) ?_
  refine lv_iconst (v := nI 2) hx hb dL_law_686 (by decide) ?_
  refine lv_iadd hx hb dL_law_687 ?_
  refine asi (z := nI (i + 2)) (nI_add _ _) ?_
  refine va_sld hx hb hX0 hbl hbA hS (vp_in_nI (by omega) (by omega)) dL_law_688 ?_
  refine asi (z := xs (i + 2)) (congrArg xs (nI_clamp (by omega))) ?_
  refine lv_aload_n hx hb dL_law_689 rfl (lv_at hl 0 rfl) ?_
  refine lv_iload hx hb dL_law_690 (lv_at hl 4 rfl) ?_
  refine lv_iconst (v := nI 3) hx hb dL_law_692 (by decide) ?_
  refine lv_iadd hx hb dL_law_693 ?_
  refine asi (z := nI (i + 3)) (nI_add _ _) ?_
  refine va_sld hx hb hX0 hbl hbA hS (vp_in_nI (by omega) (by omega)) dL_law_694 ?_
  refine asi (z := xs (i + 3)) (congrArg xs (nI_clamp (by omega))) ?_
  refine lv_aload_n hx hb dL_law_695 rfl (lv_at hl 0 rfl) ?_
  refine lv_iload hx hb dL_law_696 (lv_at hl 4 rfl) ?_
  refine lv_iconst (v := nI 4) hx hb dL_law_698 (by decide) ?_
  refine lv_iadd hx hb dL_law_699 ?_
  refine asi (z := nI (i + 4)) (nI_add _ _) ?_
  refine va_sld hx hb hX0 hbl hbA hS (vp_in_nI (by omega) (by omega)) dL_law_700 ?_
  refine asi (z := xs (i + 4)) (congrArg xs (nI_clamp (by omega))) ?_
  refine lv_aload_n hx hb dL_law_701 rfl (lv_at hl 3 rfl) ?_
  refine hCi (As := [.ref (a 34), .int (xs (i + 1)), .int (xs (i + 2)), .int (xs (i + 3)), .int (xs (i + 4)), .ref o]) (rest := []) (m_L_ask l hfl Γ _ a b rf hrf f z F Z σ sc ss nb bb hX o og (xs (i + 1)) (xs (i + 2)) (xs (i + 3)) (xs (i + 4))) hE S k_L_ask gL_law_L_ask ⟨(Nat.le_of_ble_eq_true rfl), (Nat.le_of_ble_eq_true rfl)⟩ hK hP hD hS hA rfl hl.1 (Nat.le_of_ble_eq_true rfl) rfl dL_law_702 ⟨by show cells + 0 + 1 ≤ 625301; omega, by show slots + 0 + 6 ≤ 7220200; omega⟩ (fun r u H locs hr hP hD hS => ?_)
  obtain ⟨⟨f1, z1, F1, Z1⟩, og1⟩ := u
  obtain ⟨hr0, hr1, hr2⟩ := hr
  subst hr0
  have hP : gP Γ (wLw Γ a b rf f1 z1 F1 Z1 o og1 am v hh g) H := hP
  have hD : va_D (fun q : Nat => s.heap.size ≤ q) (wLw Γ a b rf f1 z1 F1 Z1 o og1 am v hh g) := hD
  refine lv_istore (lv' := [(5, .int (nI (qCode (xs (i + 1)) (xs (i + 2)) (xs (i + 3)) (xs (i + 4))))), (0, .ref bs), (1, .ref (a 34)), (2, .ref (am 0)), (3, .ref o), (4, .int (nI i))]) hx hb dL_law_705 hl (by decide) rfl (fun ls hl => ?_)
  refine lv_aload_n hx hb dL_law_707 rfl (lv_at hl 3 rfl) ?_
  refine lv_aload_n hx hb dL_law_708 rfl (lv_at hl 1 rfl) ?_
  refine lv_iload hx hb dL_law_709 (lv_at hl 5 rfl) ?_
  refine lv_iconst (v := nI 1) hx hb dL_law_711 (by decide) ?_
  refine lv_iadd hx hb dL_law_712 ?_
  refine asi (z := nI (i + 1)) (nI_add _ _) ?_
  refine va_sld hx hb hX0 hbl hbA hS (vp_in_nI (by omega) (by omega)) dL_law_713 ?_
  refine asi (z := xs (i + 1)) (congrArg xs (nI_clamp (by omega))) ?_
  refine lv_aload_n hx hb dL_law_714 rfl (lv_at hl 1 rfl) ?_
  refine lv_iload hx hb dL_law_715 (lv_at hl 5 rfl) ?_
  refine lv_iconst (v := nI 2) hx hb dL_law_717 (by decide) ?_
  refine lv_iadd hx hb dL_law_718 ?_
  refine asi (z := nI (i + 2)) (nI_add _ _) ?_
  refine va_sld hx hb hX0 hbl hbA hS (vp_in_nI (by omega) (by omega)) dL_law_719 ?_
  refine asi (z := xs (i + 2)) (congrArg xs (nI_clamp (by omega))) ?_
  refine lv_aload_n hx hb dL_law_720 rfl (lv_at hl 1 rfl) ?_
  refine lv_iload hx hb dL_law_721 (lv_at hl 5 rfl) ?_
  refine lv_iconst (v := nI 3) hx hb dL_law_723 (by decide) ?_
  refine lv_iadd hx hb dL_law_724 ?_
  refine asi (z := nI (i + 3)) (nI_add _ _) ?_
  refine va_sld hx hb hX0 hbl hbA hS (vp_in_nI (by omega) (by omega)) dL_law_725 ?_
  refine asi (z := xs (i + 3)) (congrArg xs (nI_clamp (by omega))) ?_
  refine lv_aload_n hx hb dL_law_726 rfl (lv_at hl 1 rfl) ?_
  refine lv_iload hx hb dL_law_727 (lv_at hl 5 rfl) ?_
  refine lv_iconst (v := nI 4) hx hb dL_law_729 (by decide) ?_
  refine lv_iadd hx hb dL_law_730 ?_
  refine asi (z := nI (i + 4)) (nI_add _ _) ?_
  refine va_sld hx hb hX0 hbl hbA hS (vp_in_nI (by omega) (by omega)) dL_law_731 ?_
  refine asi (z := xs (i + 4)) (congrArg xs (nI_clamp (by omega))) ?_
  refine aWi (As := [.int (xs (i + 1)), .int (xs (i + 2)), .int (xs (i + 3)), .int (xs (i + 4))]) (rest := []) (wr := (o, oC Γ og1) :: wXo Γ a b rf f1 z1 F1 Z1) (m_X9_ask l Γ _ am v hh g σ sc ss nb bb hM (xs (i + 1)) (xs (i + 2)) (xs (i + 3)) (xs (i + 4))) S k_X9_ask gL_law_X9_ask rfl ⟨(Nat.le_of_ble_eq_true rfl), (Nat.le_of_ble_eq_true rfl)⟩ hK (gP_sw hP) (gD_sw hD) hS hA 0 (ci := 9) rfl rfl rfl rfl hl.1 (Nat.le_of_ble_eq_true rfl) rfl dL_law_732 ⟨by show cells + 1 + 0 ≤ 625301; omega, by show slots + 6 + 0 ≤ 7220200; omega⟩ (fun r u H locs hr hP hD hS => ?_)
  obtain ⟨v1, hh1, g1⟩ := u
  have hP : gP Γ (wLw Γ a b rf f1 z1 F1 Z1 o og1 am v1 hh1 g1) H := gP_sw (w1 := wMd Γ am v1 hh1 g1) hP
  have hD : va_D (fun q : Nat => s.heap.size ≤ q) (wLw Γ a b rf f1 z1 F1 Z1 o og1 am v1 hh1 g1) := gD_sw (w1 := wMd Γ am v1 hh1 g1) hD
  obtain ⟨ht0, hm1, hm2⟩ := hr
  refine lv_istore (lv' := [(6, .int r), (5, .int (nI (qCode (xs (i + 1)) (xs (i + 2)) (xs (i + 3)) (xs (i + 4))))), (0, .ref bs), (1, .ref (a 34)), (2, .ref (am 0)), (3, .ref o), (4, .int (nI i))]) hx hb dL_law_735 hl (by decide) rfl (fun ls hl => ?_)
  refine lv_aload_n hx hb dL_law_737 rfl (lv_at hl 4 rfl) ?_
  refine rRi (As := []) (rest := []) (wr := (o, oC Γ og1) :: wXo Γ a b rf f1 z1 F1 Z1) (m_X9_thrown l Γ am v1 hh1 g1) S k_X9_thrown gL_law_X9_thrown rfl ⟨(Nat.le_of_ble_eq_true rfl), (Nat.le_of_ble_eq_true rfl)⟩ hK (gP_sw hP) 0 (ci := 9) rfl rfl rfl rfl hl.1 (Nat.le_of_ble_eq_true rfl) rfl dL_law_738 ⟨by show cells + 1 ≤ 625301; omega, by show slots + 6 ≤ 7220200; omega⟩ (fun t ht => ?_)
  subst ht
  refine asi (z := nI (qCode (xs (i + 1)) (xs (i + 2)) (xs (i + 3)) (xs (i + 4)))) ht0 ?_
  refine lv_iload hx hb dL_law_741 (lv_at hl 1 rfl) ?_
  refine lv_icmp_eq (tgt := 748) hx hb dL_law_743 (by decide) (fun _ => ?_) (fun c => absurd rfl c)
  refine lv_iload hx hb dL_law_748 (lv_at hl 1 rfl) ?_
  have hcle : qCode (xs (i + 1)) (xs (i + 2)) (xs (i + 3)) (xs (i + 4)) < 2 ^ 31 := by exact qCode_le _ _ _ _
  refine lv_if_ne (tgt := 765) hx hb dL_law_750 (by decide) (fun ck => ?_) (fun ck => ?_)
  · have hk : ¬ qCode (xs (i + 1)) (xs (i + 2)) (xs (i + 3)) (xs (i + 4)) = 0 := fun h => ck (by rw [h]; rfl)
    refine lv_goto (tgt := 1710) hx hb dL_law_765 (by decide) ?_
    refine W.widen (k := cells + 2) (n := slots + 12) (by omega) (by omega) ?_
    exact KK _ _ _ ⟨f1, z1, F1, Z1, og1, v1, hh1, g1, _, _, _, _, _, (hr2 hk), (hm2 hk).2, hP, hD, hS⟩ (lv_sub hl [2, 3, 4, 5, 6] rfl)
  · have hk : qCode (xs (i + 1)) (xs (i + 2)) (xs (i + 3)) (xs (i + 4)) = 0 := (nI_eq (a := qCode (xs (i + 1)) (xs (i + 2)) (xs (i + 3)) (xs (i + 4))) (b := 0) hcle (by decide)).mp ck
    obtain ⟨ho1, hX1⟩ := hr1 hk
    obtain ⟨hr6, hM1⟩ := hm1 hk
    subst hr6
    have hl : lv_has ls 9 [(6, .int (cAns σ (xs (i + 1)).toNatClampNeg (seenQ σ (xs (i + 1)).toNatClampNeg (xs (i + 2)) (xs (i + 3)).toNatClampNeg (xs (i + 4)).toNatClampNeg))), (5, .int (nI (qCode (xs (i + 1)) (xs (i + 2)) (xs (i + 3)) (xs (i + 4))))), (0, .ref bs), (1, .ref (a 34)), (2, .ref (am 0)), (3, .ref o), (4, .int (nI i))] := hl
    refine lv_aload_n hx hb dL_law_753 rfl (lv_at hl 5 rfl) ?_
    refine lv_iconst (v := nI 0) hx hb dL_law_754 (by decide) ?_
    refine va_lald hx hb hK hP 0 2 rfl rfl (vp_in_nI (by omega) (by omega)) dL_law_755 ?_
    refine asl (z := (cAns σ (xs (i + 1)).toNatClampNeg (seenQ σ (xs (i + 1)).toNatClampNeg (xs (i + 2)) (xs (i + 3)).toNatClampNeg (xs (i + 4)).toNatClampNeg)).toInt64) ((congrArg og1 (nI_clamp (by omega))).trans ho1) ?_
    refine lv_iload hx hb dL_law_756 (lv_at hl 0 rfl) ?_
    refine lv_i2l (v := (cAns σ (xs (i + 1)).toNatClampNeg (seenQ σ (xs (i + 1)).toNatClampNeg (xs (i + 2)) (xs (i + 3)).toNatClampNeg (xs (i + 4)).toNatClampNeg)).toInt64) hx hb dL_law_758 rfl ?_
    refine rLcmp hx hb dL_law_759 ?_
    refine lv_if_eq (tgt := 765) hx hb dL_law_760 (by decide) (fun _ => ?_) (fun c => absurd rfl c)
    refine lv_goto (tgt := 1710) hx hb dL_law_765 (by decide) ?_
    refine W.widen (k := cells + 2) (n := slots + 12) (by omega) (by omega) ?_
    exact KK _ _ _ ⟨f1, z1, F1, Z1, og1, v1, hh1, g1, _, _, _, _, _, hX1, hM1, hP, hD, hS⟩ (lv_sub hl [2, 3, 4, 5, 6] rfl)

set_option maxHeartbeats 4000000 in
set_option maxRecDepth 100000 in
theorem lw_s_askSum {p : Program} {l : Launch} {e : Env} {s : State} {m : MethodId} {below : List Frame} {meth : Method} {c : Code} {bs L : Nat} {xs : Nat → Int32} {Q : State → Prop} (C0 : lw_At p s m meth c bs L xs) (hfl : l.stackTraces = false) (hL : L ≤ 3072) {Γ : Gm} (hK : gK Γ s) (hE : gE (fun q : Nat => s.heap.size ≤ q) s) {a : Nat → Nat} {b : Nat → Nat → Nat} {rf : Nat → Option Nat} (hrf : ∀ i, i < 6 → rf i = some (b i 0)) {am : Nat → Nat} {o i : Nat} (hi : i + 6 ≤ L) {cells slots : Nat} (hc : cells + 2 ≤ 625301) (hs : slots + 12 ≤ 7220200) {H : Heap} {locs : List Loc} (hI : SI Γ s a b rf am o H locs) {ls : Array Slot} (hl : lv_has ls 9 (LVs bs (a 34) (am 0) o i)) (KK : ∀ (H : Heap) (locs : List Loc) (ls : Array Slot), SI Γ s a b rf am o H locs → lv_has ls 9 (LVs bs (a 34) (am 0) o i) → W p l e room_1 s m #[Value.ref bs] below meth c H locs (cells + 2) (slots + 12) Q (F0 m 1710 ls [])) : W p l e room_1 s m #[Value.ref bs] below meth c H locs cells slots Q (F0 m 768 ls []) := by
  obtain ⟨hx, hb, hrt, hml, hown, hts0, hX0, hbl, hlk, hgv⟩ := id C0
  have hts : ∀ w ∈ wsL_law, w.before #[Value.ref bs] s = true := fun w h => hts0 w (wsL_law_in w h)
  have S : CallFix p m c cL_law 9 s #[Value.ref bs] wsL_law RL := ⟨hx, hb, hml, hown, hts⟩
  have hA : ∀ q : Nat, s.heap.size ≤ q → (fun q : Nat => s.heap.size ≤ q) q := fun _ h => h
  have hbA : ¬ (fun q : Nat => s.heap.size ≤ q) bs := Nat.not_le.mpr hbl
  obtain ⟨f, z, F, Z, og, v, hh, g, σ, sc, ss, nb, bb, hX, hM, hP, hD, hS⟩ := hI
  have hl : lv_has ls 9 [(0, .ref bs), (1, .ref (a 34)), (2, .ref (am 0)), (3, .ref o), (4, .int (nI i))] := hl
  refine lv_aload_n hx hb dL_law_768 rfl (lv_at hl 1 rfl) ?_
  refine lv_aload_n hx hb dL_law_769 rfl (lv_at hl 0 rfl) ?_
  refine lv_iload hx hb dL_law_770 (lv_at hl 4 rfl) ?_
  refine lv_iconst (v := nI 1) hx hb dL_law_772 (by decide) ?_
  refine lv_iadd hx hb dL_law_773 ?_
  refine asi (z := nI (i + 1)) (nI_add _ _) ?_
  refine va_sld hx hb hX0 hbl hbA hS (vp_in_nI (by omega) (by omega)) dL_law_774 ?_
  refine asi (z := xs (i + 1)) (congrArg xs (nI_clamp (by omega))) ?_
  refine lv_aload_n hx hb dL_law_775 rfl (lv_at hl 0 rfl) ?_
  refine lv_iload hx hb dL_law_776 (lv_at hl 4 rfl) ?_
  refine lv_iconst (v := nI 2) hx hb dL_law_778 (by decide) ?_
  refine lv_iadd hx hb dL_law_779 ?_
  refine asi (z := nI (i + 2)) (nI_add _ _) ?_
  refine va_sld hx hb hX0 hbl hbA hS (vp_in_nI (by omega) (by omega)) dL_law_780 ?_
  refine asi (z := xs (i + 2)) (congrArg xs (nI_clamp (by omega))) ?_
  refine lv_aload_n hx hb dL_law_781 rfl (lv_at hl 0 rfl) ?_
  refine lv_iload hx hb dL_law_782 (lv_at hl 4 rfl) ?_
  refine lv_iconst (v := nI 3) hx hb dL_law_784 (by decide) ?_
  refine lv_iadd hx hb dL_law_785 ?_
  refine asi (z := nI (i + 3)) (nI_add _ _) ?_
  refine va_sld hx hb hX0 hbl hbA hS (vp_in_nI (by omega) (by omega)) dL_law_786 ?_
  refine asi (z := xs (i + 3)) (congrArg xs (nI_clamp (by omega))) ?_
  refine lv_aload_n hx hb dL_law_787 rfl (lv_at hl 0 rfl) ?_
  refine lv_iload hx hb dL_law_788 (lv_at hl 4 rfl) ?_
  refine lv_iconst (v := nI 4) hx hb dL_law_790 (by decide) ?_
  refine lv_iadd hx hb dL_law_791 ?_
  refine asi (z := nI (i + 4)) (nI_add _ _) ?_
  refine va_sld hx hb hX0 hbl hbA hS (vp_in_nI (by omega) (by omega)) dL_law_792 ?_
  refine asi (z := xs (i + 4)) (congrArg xs (nI_clamp (by omega))) ?_
  refine lv_aload_n hx hb dL_law_793 rfl (lv_at hl 3 rfl) ?_
  refine hCi (As := [.ref (a 34), .int (xs (i + 1)), .int (xs (i + 2)), .int (xs (i + 3)), .int (xs (i + 4)), .ref o]) (rest := []) (m_L_askSum l hfl Γ _ a b rf hrf f z F Z σ sc ss nb bb hX o og (xs (i + 1)) (xs (i + 2)) (xs (i + 3)) (xs (i + 4))) hE S k_L_askSum gL_law_L_askSum ⟨(Nat.le_of_ble_eq_true rfl), (Nat.le_of_ble_eq_true rfl)⟩ hK hP hD hS hA rfl hl.1 (Nat.le_of_ble_eq_true rfl) rfl dL_law_794 ⟨by show cells + 0 + 1 ≤ 625301; omega, by show slots + 0 + 6 ≤ 7220200; omega⟩ (fun r u H locs hr hP hD hS => ?_)
  obtain ⟨⟨f1, z1, F1, Z1⟩, og1⟩ := u
  obtain ⟨hr0, hr1, hr2⟩ := hr
  subst hr0
  have hP : gP Γ (wLw Γ a b rf f1 z1 F1 Z1 o og1 am v hh g) H := hP
  have hD : va_D (fun q : Nat => s.heap.size ≤ q) (wLw Γ a b rf f1 z1 F1 Z1 o og1 am v hh g) := hD
  refine lv_istore (lv' := [(5, .int (nI (qCode (xs (i + 1)) (xs (i + 2)) (xs (i + 3)) (xs (i + 4))))), (0, .ref bs), (1, .ref (a 34)), (2, .ref (am 0)), (3, .ref o), (4, .int (nI i))]) hx hb dL_law_797 hl (by decide) rfl (fun ls hl => ?_)
  refine lv_aload_n hx hb dL_law_799 rfl (lv_at hl 3 rfl) ?_
  refine lv_aload_n hx hb dL_law_800 rfl (lv_at hl 1 rfl) ?_
  refine lv_iload hx hb dL_law_801 (lv_at hl 5 rfl) ?_
  refine lv_iconst (v := nI 1) hx hb dL_law_803 (by decide) ?_
  refine lv_iadd hx hb dL_law_804 ?_
  refine asi (z := nI (i + 1)) (nI_add _ _) ?_
  refine va_sld hx hb hX0 hbl hbA hS (vp_in_nI (by omega) (by omega)) dL_law_805 ?_
  refine asi (z := xs (i + 1)) (congrArg xs (nI_clamp (by omega))) ?_
  refine lv_aload_n hx hb dL_law_806 rfl (lv_at hl 1 rfl) ?_
  refine lv_iload hx hb dL_law_807 (lv_at hl 5 rfl) ?_
  refine lv_iconst (v := nI 2) hx hb dL_law_809 (by decide) ?_
  refine lv_iadd hx hb dL_law_810 ?_
  refine asi (z := nI (i + 2)) (nI_add _ _) ?_
  refine va_sld hx hb hX0 hbl hbA hS (vp_in_nI (by omega) (by omega)) dL_law_811 ?_
  refine asi (z := xs (i + 2)) (congrArg xs (nI_clamp (by omega))) ?_
  refine lv_aload_n hx hb dL_law_812 rfl (lv_at hl 1 rfl) ?_
  refine lv_iload hx hb dL_law_813 (lv_at hl 5 rfl) ?_
  refine lv_iconst (v := nI 3) hx hb dL_law_815 (by decide) ?_
  refine lv_iadd hx hb dL_law_816 ?_
  refine asi (z := nI (i + 3)) (nI_add _ _) ?_
  refine va_sld hx hb hX0 hbl hbA hS (vp_in_nI (by omega) (by omega)) dL_law_817 ?_
  refine asi (z := xs (i + 3)) (congrArg xs (nI_clamp (by omega))) ?_
  refine lv_aload_n hx hb dL_law_818 rfl (lv_at hl 1 rfl) ?_
  refine lv_iload hx hb dL_law_819 (lv_at hl 5 rfl) ?_
  refine lv_iconst (v := nI 4) hx hb dL_law_821 (by decide) ?_
  refine lv_iadd hx hb dL_law_822 ?_
  refine asi (z := nI (i + 4)) (nI_add _ _) ?_
  refine va_sld hx hb hX0 hbl hbA hS (vp_in_nI (by omega) (by omega)) dL_law_823 ?_
  refine asi (z := xs (i + 4)) (congrArg xs (nI_clamp (by omega))) ?_
  refine aWi (As := [.int (xs (i + 1)), .int (xs (i + 2)), .int (xs (i + 3)), .int (xs (i + 4))]) (rest := []) (wr := (o, oC Γ og1) :: wXo Γ a b rf f1 z1 F1 Z1) (m_X9_askSum l Γ _ am v hh g σ sc ss nb bb hM (xs (i + 1)) (xs (i + 2)) (xs (i + 3)) (xs (i + 4))) S k_X9_askSum gL_law_X9_askSum rfl ⟨(Nat.le_of_ble_eq_true rfl), (Nat.le_of_ble_eq_true rfl)⟩ hK (gP_sw hP) (gD_sw hD) hS hA 0 (ci := 9) rfl rfl rfl rfl hl.1 (Nat.le_of_ble_eq_true rfl) rfl dL_law_824 ⟨by show cells + 1 + 0 ≤ 625301; omega, by show slots + 6 + 0 ≤ 7220200; omega⟩ (fun r u H locs hr hP hD hS => ?_)
  obtain ⟨v1, hh1, g1⟩ := u
  have hP : gP Γ (wLw Γ a b rf f1 z1 F1 Z1 o og1 am v1 hh1 g1) H := gP_sw (w1 := wMd Γ am v1 hh1 g1) hP
  have hD : va_D (fun q : Nat => s.heap.size ≤ q) (wLw Γ a b rf f1 z1 F1 Z1 o og1 am v1 hh1 g1) := gD_sw (w1 := wMd Γ am v1 hh1 g1) hD
  obtain ⟨ht0, hm1, hm2⟩ := hr
  refine lv_istore (lv' := [(6, .int r), (5, .int (nI (qCode (xs (i + 1)) (xs (i + 2)) (xs (i + 3)) (xs (i + 4))))), (0, .ref bs), (1, .ref (a 34)), (2, .ref (am 0)), (3, .ref o), (4, .int (nI i))]) hx hb dL_law_827 hl (by decide) rfl (fun ls hl => ?_)
  refine lv_aload_n hx hb dL_law_829 rfl (lv_at hl 4 rfl) ?_
  refine rRi (As := []) (rest := []) (wr := (o, oC Γ og1) :: wXo Γ a b rf f1 z1 F1 Z1) (m_X9_thrown l Γ am v1 hh1 g1) S k_X9_thrown gL_law_X9_thrown rfl ⟨(Nat.le_of_ble_eq_true rfl), (Nat.le_of_ble_eq_true rfl)⟩ hK (gP_sw hP) 0 (ci := 9) rfl rfl rfl rfl hl.1 (Nat.le_of_ble_eq_true rfl) rfl dL_law_830 ⟨by show cells + 1 ≤ 625301; omega, by show slots + 6 ≤ 7220200; omega⟩ (fun t ht => ?_)
  subst ht
  refine asi (z := nI (qCode (xs (i + 1)) (xs (i + 2)) (xs (i + 3)) (xs (i + 4)))) ht0 ?_
  refine lv_iload hx hb dL_law_833 (lv_at hl 1 rfl) ?_
  refine lv_icmp_eq (tgt := 840) hx hb dL_law_835 (by decide) (fun _ => ?_) (fun c => absurd rfl c)
  refine lv_iload hx hb dL_law_840 (lv_at hl 1 rfl) ?_
  have hcle : qCode (xs (i + 1)) (xs (i + 2)) (xs (i + 3)) (xs (i + 4)) < 2 ^ 31 := by exact qCode_le _ _ _ _
  refine lv_if_ne (tgt := 857) hx hb dL_law_842 (by decide) (fun ck => ?_) (fun ck => ?_)
  · have hk : ¬ qCode (xs (i + 1)) (xs (i + 2)) (xs (i + 3)) (xs (i + 4)) = 0 := fun h => ck (by rw [h]; rfl)
    refine lv_goto (tgt := 1710) hx hb dL_law_857 (by decide) ?_
    refine W.widen (k := cells + 2) (n := slots + 12) (by omega) (by omega) ?_
    exact KK _ _ _ ⟨f1, z1, F1, Z1, og1, v1, hh1, g1, _, _, _, _, _, (hr2 hk), (hm2 hk).2, hP, hD, hS⟩ (lv_sub hl [2, 3, 4, 5, 6] rfl)
  · have hk : qCode (xs (i + 1)) (xs (i + 2)) (xs (i + 3)) (xs (i + 4)) = 0 := (nI_eq (a := qCode (xs (i + 1)) (xs (i + 2)) (xs (i + 3)) (xs (i + 4))) (b := 0) hcle (by decide)).mp ck
    obtain ⟨ho1, hX1⟩ := hr1 hk
    obtain ⟨hr6, hM1⟩ := hm1 hk
    subst hr6
    have hl : lv_has ls 9 [(6, .int (sAns σ (seenQ σ (xs (i + 1)).toNatClampNeg (xs (i + 2)) (xs (i + 3)).toNatClampNeg (xs (i + 4)).toNatClampNeg))), (5, .int (nI (qCode (xs (i + 1)) (xs (i + 2)) (xs (i + 3)) (xs (i + 4))))), (0, .ref bs), (1, .ref (a 34)), (2, .ref (am 0)), (3, .ref o), (4, .int (nI i))] := hl
    refine lv_aload_n hx hb dL_law_845 rfl (lv_at hl 5 rfl) ?_
    refine lv_iconst (v := nI 0) hx hb dL_law_846 (by decide) ?_
    refine va_lald hx hb hK hP 0 2 rfl rfl (vp_in_nI (by omega) (by omega)) dL_law_847 ?_
    refine asl (z := (sAns σ (seenQ σ (xs (i + 1)).toNatClampNeg (xs (i + 2)) (xs (i + 3)).toNatClampNeg (xs (i + 4)).toNatClampNeg)).toInt64) ((congrArg og1 (nI_clamp (by omega))).trans ho1) ?_
    refine lv_iload hx hb dL_law_848 (lv_at hl 0 rfl) ?_
    refine lv_i2l (v := (sAns σ (seenQ σ (xs (i + 1)).toNatClampNeg (xs (i + 2)) (xs (i + 3)).toNatClampNeg (xs (i + 4)).toNatClampNeg)).toInt64) hx hb dL_law_850 rfl ?_
    refine rLcmp hx hb dL_law_851 ?_
    refine lv_if_eq (tgt := 857) hx hb dL_law_852 (by decide) (fun _ => ?_) (fun c => absurd rfl c)
    refine lv_goto (tgt := 1710) hx hb dL_law_857 (by decide) ?_
    refine W.widen (k := cells + 2) (n := slots + 12) (by omega) (by omega) ?_
    exact KK _ _ _ ⟨f1, z1, F1, Z1, og1, v1, hh1, g1, _, _, _, _, _, hX1, hM1, hP, hD, hS⟩ (lv_sub hl [2, 3, 4, 5, 6] rfl)

set_option maxHeartbeats 4000000 in
set_option maxRecDepth 100000 in
theorem lw_s_forget {p : Program} {l : Launch} {e : Env} {s : State} {m : MethodId} {below : List Frame} {meth : Method} {c : Code} {bs L : Nat} {xs : Nat → Int32} {Q : State → Prop} (C0 : lw_At p s m meth c bs L xs) (hfl : l.stackTraces = false) (hL : L ≤ 3072) {Γ : Gm} (hK : gK Γ s) (hE : gE (fun q : Nat => s.heap.size ≤ q) s) {a : Nat → Nat} {b : Nat → Nat → Nat} {rf : Nat → Option Nat} (hrf : ∀ i, i < 6 → rf i = some (b i 0)) {am : Nat → Nat} {o i : Nat} (hi : i + 6 ≤ L) {cells slots : Nat} (hc : cells + 2 ≤ 625301) (hs : slots + 12 ≤ 7220200) {H : Heap} {locs : List Loc} (hI : SI Γ s a b rf am o H locs) {ls : Array Slot} (hl : lv_has ls 9 (LVs bs (a 34) (am 0) o i)) (KK : ∀ (H : Heap) (locs : List Loc) (ls : Array Slot), SI Γ s a b rf am o H locs → lv_has ls 9 (LVs bs (a 34) (am 0) o i) → W p l e room_1 s m #[Value.ref bs] below meth c H locs (cells + 2) (slots + 12) Q (F0 m 1710 ls [])) : W p l e room_1 s m #[Value.ref bs] below meth c H locs cells slots Q (F0 m 860 ls []) := by
  obtain ⟨hx, hb, hrt, hml, hown, hts0, hX0, hbl, hlk, hgv⟩ := id C0
  have hts : ∀ w ∈ wsL_law, w.before #[Value.ref bs] s = true := fun w h => hts0 w (wsL_law_in w h)
  have S : CallFix p m c cL_law 9 s #[Value.ref bs] wsL_law RL := ⟨hx, hb, hml, hown, hts⟩
  have hA : ∀ q : Nat, s.heap.size ≤ q → (fun q : Nat => s.heap.size ≤ q) q := fun _ h => h
  have hbA : ¬ (fun q : Nat => s.heap.size ≤ q) bs := Nat.not_le.mpr hbl
  obtain ⟨f, z, F, Z, og, v, hh, g, σ, sc, ss, nb, bb, hX, hM, hP, hD, hS⟩ := hI
  have hl : lv_has ls 9 [(0, .ref bs), (1, .ref (a 34)), (2, .ref (am 0)), (3, .ref o), (4, .int (nI i))] := hl
  refine lv_aload_n hx hb dL_law_860 rfl (lv_at hl 1 rfl) ?_
  refine lv_aload_n hx hb dL_law_861 rfl (lv_at hl 0 rfl) ?_
  refine lv_iload hx hb dL_law_862 (lv_at hl 4 rfl) ?_
  refine lv_iconst (v := nI 1) hx hb dL_law_864 (by decide) ?_
  refine lv_iadd hx hb dL_law_865 ?_
  refine asi (z := nI (i + 1)) (nI_add _ _) ?_
  refine va_sld hx hb hX0 hbl hbA hS (vp_in_nI (by omega) (by omega)) dL_law_866 ?_
  refine asi (z := xs (i + 1)) (congrArg xs (nI_clamp (by omega))) ?_
  refine lv_aload_n hx hb dL_law_867 rfl (lv_at hl 3 rfl) ?_
  refine hCi (As := [.ref (a 34), .int (xs (i + 1)), .ref o]) (rest := []) (m_L_forget l hfl Γ _ a b rf hrf f z F Z σ sc ss nb bb hX o og (xs (i + 1))) hE S k_L_forget gL_law_L_forget ⟨(Nat.le_of_ble_eq_true rfl), (Nat.le_of_ble_eq_true rfl)⟩ hK hP hD hS hA rfl hl.1 (Nat.le_of_ble_eq_true rfl) rfl dL_law_868 ⟨by show cells + 0 + 1 ≤ 625301; omega, by show slots + 0 + 6 ≤ 7220200; omega⟩ (fun r u H locs hr hP hD hS => ?_)
  obtain ⟨⟨f1, z1, F1, Z1⟩, og1⟩ := u
  obtain ⟨hr0, hr1, hr2⟩ := hr
  subst hr0
  have hP : gP Γ (wLw Γ a b rf f1 z1 F1 Z1 o og1 am v hh g) H := hP
  have hD : va_D (fun q : Nat => s.heap.size ≤ q) (wLw Γ a b rf f1 z1 F1 Z1 o og1 am v hh g) := hD
  refine lv_istore (lv' := [(5, .int (nI (fgC (xs (i + 1))))), (0, .ref bs), (1, .ref (a 34)), (2, .ref (am 0)), (3, .ref o), (4, .int (nI i))]) hx hb dL_law_871 hl (by decide) rfl (fun ls hl => ?_)
  refine lv_aload_n hx hb dL_law_873 rfl (lv_at hl 3 rfl) ?_
  refine lv_aload_n hx hb dL_law_874 rfl (lv_at hl 1 rfl) ?_
  refine lv_iload hx hb dL_law_875 (lv_at hl 5 rfl) ?_
  refine lv_iconst (v := nI 1) hx hb dL_law_877 (by decide) ?_
  refine lv_iadd hx hb dL_law_878 ?_
  refine asi (z := nI (i + 1)) (nI_add _ _) ?_
  refine va_sld hx hb hX0 hbl hbA hS (vp_in_nI (by omega) (by omega)) dL_law_879 ?_
  refine asi (z := xs (i + 1)) (congrArg xs (nI_clamp (by omega))) ?_
  refine aWi (As := [.int (xs (i + 1))]) (rest := []) (wr := (o, oC Γ og1) :: wXo Γ a b rf f1 z1 F1 Z1) (m_X9_forget l Γ _ am v hh g σ sc ss nb bb hM (xs (i + 1))) S k_X9_forget gL_law_X9_forget rfl ⟨(Nat.le_of_ble_eq_true rfl), (Nat.le_of_ble_eq_true rfl)⟩ hK (gP_sw hP) (gD_sw hD) hS hA 0 (ci := 9) rfl rfl rfl rfl hl.1 (Nat.le_of_ble_eq_true rfl) rfl dL_law_880 ⟨by show cells + 1 + 0 ≤ 625301; omega, by show slots + 6 + 0 ≤ 7220200; omega⟩ (fun r u H locs hr hP hD hS => ?_)
  obtain ⟨v1, hh1, g1⟩ := u
  have hP : gP Γ (wLw Γ a b rf f1 z1 F1 Z1 o og1 am v1 hh1 g1) H := gP_sw (w1 := wMd Γ am v1 hh1 g1) hP
  have hD : va_D (fun q : Nat => s.heap.size ≤ q) (wLw Γ a b rf f1 z1 F1 Z1 o og1 am v1 hh1 g1) := gD_sw (w1 := wMd Γ am v1 hh1 g1) hD
  obtain ⟨ht0, hm1, hm2⟩ := hr
  refine lv_istore (lv' := [(6, .int r), (5, .int (nI (fgC (xs (i + 1))))), (0, .ref bs), (1, .ref (a 34)), (2, .ref (am 0)), (3, .ref o), (4, .int (nI i))]) hx hb dL_law_883 hl (by decide) rfl (fun ls hl => ?_)
  refine lv_aload_n hx hb dL_law_885 rfl (lv_at hl 4 rfl) ?_
  refine rRi (As := []) (rest := []) (wr := (o, oC Γ og1) :: wXo Γ a b rf f1 z1 F1 Z1) (m_X9_thrown l Γ am v1 hh1 g1) S k_X9_thrown gL_law_X9_thrown rfl ⟨(Nat.le_of_ble_eq_true rfl), (Nat.le_of_ble_eq_true rfl)⟩ hK (gP_sw hP) 0 (ci := 9) rfl rfl rfl rfl hl.1 (Nat.le_of_ble_eq_true rfl) rfl dL_law_886 ⟨by show cells + 1 ≤ 625301; omega, by show slots + 6 ≤ 7220200; omega⟩ (fun t ht => ?_)
  subst ht
  refine asi (z := nI (fgC (xs (i + 1)))) ht0 ?_
  refine lv_iload hx hb dL_law_889 (lv_at hl 1 rfl) ?_
  refine lv_icmp_eq (tgt := 896) hx hb dL_law_891 (by decide) (fun _ => ?_) (fun c => absurd rfl c)
  refine lv_iload hx hb dL_law_896 (lv_at hl 1 rfl) ?_
  have hcle : fgC (xs (i + 1)) < 2 ^ 31 := by unfold fgC; (repeat' split) <;> decide
  refine lv_if_ne (tgt := 913) hx hb dL_law_898 (by decide) (fun ck => ?_) (fun ck => ?_)
  · have hk : ¬ fgC (xs (i + 1)) = 0 := fun h => ck (by rw [h]; rfl)
    refine lv_goto (tgt := 1710) hx hb dL_law_913 (by decide) ?_
    refine W.widen (k := cells + 2) (n := slots + 12) (by omega) (by omega) ?_
    exact KK _ _ _ ⟨f1, z1, F1, Z1, og1, v1, hh1, g1, _, _, _, _, _, (hr2 hk), (hm2 hk).2, hP, hD, hS⟩ (lv_sub hl [2, 3, 4, 5, 6] rfl)
  · have hk : fgC (xs (i + 1)) = 0 := (nI_eq (a := fgC (xs (i + 1))) (b := 0) hcle (by decide)).mp ck
    obtain ⟨ho1, hX1⟩ := hr1 hk
    obtain ⟨hr6, hM1⟩ := hm1 hk
    subst hr6
    have hl : lv_has ls 9 [(6, .int (nI (oK σ (xs (i + 1)).toNatClampNeg))), (5, .int (nI (fgC (xs (i + 1))))), (0, .ref bs), (1, .ref (a 34)), (2, .ref (am 0)), (3, .ref o), (4, .int (nI i))] := hl
    refine lv_aload_n hx hb dL_law_901 rfl (lv_at hl 5 rfl) ?_
    refine lv_iconst (v := nI 0) hx hb dL_law_902 (by decide) ?_
    refine va_lald hx hb hK hP 0 2 rfl rfl (vp_in_nI (by omega) (by omega)) dL_law_903 ?_
    refine asl (z := (nI (oK σ (xs (i + 1)).toNatClampNeg)).toInt64) ((congrArg og1 (nI_clamp (by omega))).trans ho1) ?_
    refine lv_iload hx hb dL_law_904 (lv_at hl 0 rfl) ?_
    refine lv_i2l (v := (nI (oK σ (xs (i + 1)).toNatClampNeg)).toInt64) hx hb dL_law_906 rfl ?_
    refine rLcmp hx hb dL_law_907 ?_
    refine lv_if_eq (tgt := 913) hx hb dL_law_908 (by decide) (fun _ => ?_) (fun c => absurd rfl c)
    refine lv_goto (tgt := 1710) hx hb dL_law_913 (by decide) ?_
    refine W.widen (k := cells + 2) (n := slots + 12) (by omega) (by omega) ?_
    exact KK _ _ _ ⟨f1, z1, F1, Z1, og1, v1, hh1, g1, _, _, _, _, _, hX1, hM1, hP, hD, hS⟩ (lv_sub hl [2, 3, 4, 5, 6] rfl)

set_option maxHeartbeats 4000000 in
set_option maxRecDepth 100000 in
theorem lw_s_append {p : Program} {l : Launch} {e : Env} {s : State} {m : MethodId} {below : List Frame} {meth : Method} {c : Code} {bs L : Nat} {xs : Nat → Int32} {Q : State → Prop} (C0 : lw_At p s m meth c bs L xs) (hfl : l.stackTraces = false) (hL : L ≤ 3072) {Γ : Gm} (hK : gK Γ s) (hE : gE (fun q : Nat => s.heap.size ≤ q) s) {a : Nat → Nat} {b : Nat → Nat → Nat} {rf : Nat → Option Nat} (hrf : ∀ i, i < 6 → rf i = some (b i 0)) {am : Nat → Nat} {o i : Nat} (hi : i + 6 ≤ L) {cells slots : Nat} (hc : cells + 2 ≤ 625301) (hs : slots + 12 ≤ 7220200) {H : Heap} {locs : List Loc} (hI : SI Γ s a b rf am o H locs) {ls : Array Slot} (hl : lv_has ls 9 (LVs bs (a 34) (am 0) o i)) (KK : ∀ (H : Heap) (locs : List Loc) (ls : Array Slot), SI Γ s a b rf am o H locs → lv_has ls 9 (LVs bs (a 34) (am 0) o i) → W p l e room_1 s m #[Value.ref bs] below meth c H locs (cells + 2) (slots + 12) Q (F0 m 1710 ls [])) : W p l e room_1 s m #[Value.ref bs] below meth c H locs cells slots Q (F0 m 916 ls []) := by
  obtain ⟨hx, hb, hrt, hml, hown, hts0, hX0, hbl, hlk, hgv⟩ := id C0
  have hts : ∀ w ∈ wsL_law, w.before #[Value.ref bs] s = true := fun w h => hts0 w (wsL_law_in w h)
  have S : CallFix p m c cL_law 9 s #[Value.ref bs] wsL_law RL := ⟨hx, hb, hml, hown, hts⟩
  have hA : ∀ q : Nat, s.heap.size ≤ q → (fun q : Nat => s.heap.size ≤ q) q := fun _ h => h
  have hbA : ¬ (fun q : Nat => s.heap.size ≤ q) bs := Nat.not_le.mpr hbl
  obtain ⟨f, z, F, Z, og, v, hh, g, σ, sc, ss, nb, bb, hX, hM, hP, hD, hS⟩ := hI
  have hl : lv_has ls 9 [(0, .ref bs), (1, .ref (a 34)), (2, .ref (am 0)), (3, .ref o), (4, .int (nI i))] := hl
  refine lv_aload_n hx hb dL_law_916 rfl (lv_at hl 1 rfl) ?_
  refine lv_aload_n hx hb dL_law_917 rfl (lv_at hl 0 rfl) ?_
  refine lv_iload hx hb dL_law_918 (lv_at hl 4 rfl) ?_
  refine lv_iconst (v := nI 1) hx hb dL_law_920 (by decide) ?_
  refine lv_iadd hx hb dL_law_921 ?_
  refine asi (z := nI (i + 1)) (nI_add _ _) ?_
  refine va_sld hx hb hX0 hbl hbA hS (vp_in_nI (by omega) (by omega)) dL_law_922 ?_
  refine asi (z := xs (i + 1)) (congrArg xs (nI_clamp (by omega))) ?_
  refine lv_aload_n hx hb dL_law_923 rfl (lv_at hl 3 rfl) ?_
  refine hCi (As := [.ref (a 34), .int (xs (i + 1)), .ref o]) (rest := []) (m_L_append l hfl Γ _ a b rf hrf f z F Z σ sc ss nb bb hX o og (xs (i + 1))) hE S k_L_append gL_law_L_append ⟨(Nat.le_of_ble_eq_true rfl), (Nat.le_of_ble_eq_true rfl)⟩ hK hP hD hS hA rfl hl.1 (Nat.le_of_ble_eq_true rfl) rfl dL_law_924 ⟨by show cells + 0 + 1 ≤ 625301; omega, by show slots + 0 + 6 ≤ 7220200; omega⟩ (fun r u H locs hr hP hD hS => ?_)
  obtain ⟨⟨f1, z1, F1, Z1⟩, og1⟩ := u
  obtain ⟨hr0, hr1, hr2⟩ := hr
  subst hr0
  have hP : gP Γ (wLw Γ a b rf f1 z1 F1 Z1 o og1 am v hh g) H := hP
  have hD : va_D (fun q : Nat => s.heap.size ≤ q) (wLw Γ a b rf f1 z1 F1 Z1 o og1 am v hh g) := hD
  refine lv_istore (lv' := [(5, .int (nI (apC nb (xs (i + 1))))), (0, .ref bs), (1, .ref (a 34)), (2, .ref (am 0)), (3, .ref o), (4, .int (nI i))]) hx hb dL_law_927 hl (by decide) rfl (fun ls hl => ?_)
  refine lv_aload_n hx hb dL_law_929 rfl (lv_at hl 3 rfl) ?_
  refine lv_aload_n hx hb dL_law_930 rfl (lv_at hl 1 rfl) ?_
  refine lv_iload hx hb dL_law_931 (lv_at hl 5 rfl) ?_
  refine lv_iconst (v := nI 1) hx hb dL_law_933 (by decide) ?_
  refine lv_iadd hx hb dL_law_934 ?_
  refine asi (z := nI (i + 1)) (nI_add _ _) ?_
  refine va_sld hx hb hX0 hbl hbA hS (vp_in_nI (by omega) (by omega)) dL_law_935 ?_
  refine asi (z := xs (i + 1)) (congrArg xs (nI_clamp (by omega))) ?_
  refine aWi (As := [.int (xs (i + 1))]) (rest := []) (wr := (o, oC Γ og1) :: wXo Γ a b rf f1 z1 F1 Z1) (m_X9_append l Γ _ am v hh g σ sc ss nb bb hM (xs (i + 1))) S k_X9_append gL_law_X9_append rfl ⟨(Nat.le_of_ble_eq_true rfl), (Nat.le_of_ble_eq_true rfl)⟩ hK (gP_sw hP) (gD_sw hD) hS hA 0 (ci := 9) rfl rfl rfl rfl hl.1 (Nat.le_of_ble_eq_true rfl) rfl dL_law_936 ⟨by show cells + 1 + 0 ≤ 625301; omega, by show slots + 6 + 0 ≤ 7220200; omega⟩ (fun r u H locs hr hP hD hS => ?_)
  obtain ⟨v1, hh1, g1⟩ := u
  have hP : gP Γ (wLw Γ a b rf f1 z1 F1 Z1 o og1 am v1 hh1 g1) H := gP_sw (w1 := wMd Γ am v1 hh1 g1) hP
  have hD : va_D (fun q : Nat => s.heap.size ≤ q) (wLw Γ a b rf f1 z1 F1 Z1 o og1 am v1 hh1 g1) := gD_sw (w1 := wMd Γ am v1 hh1 g1) hD
  obtain ⟨ht0, hm1, hm2⟩ := hr
  refine lv_istore (lv' := [(6, .int r), (5, .int (nI (apC nb (xs (i + 1))))), (0, .ref bs), (1, .ref (a 34)), (2, .ref (am 0)), (3, .ref o), (4, .int (nI i))]) hx hb dL_law_939 hl (by decide) rfl (fun ls hl => ?_)
  refine lv_aload_n hx hb dL_law_941 rfl (lv_at hl 4 rfl) ?_
  refine rRi (As := []) (rest := []) (wr := (o, oC Γ og1) :: wXo Γ a b rf f1 z1 F1 Z1) (m_X9_thrown l Γ am v1 hh1 g1) S k_X9_thrown gL_law_X9_thrown rfl ⟨(Nat.le_of_ble_eq_true rfl), (Nat.le_of_ble_eq_true rfl)⟩ hK (gP_sw hP) 0 (ci := 9) rfl rfl rfl rfl hl.1 (Nat.le_of_ble_eq_true rfl) rfl dL_law_942 ⟨by show cells + 1 ≤ 625301; omega, by show slots + 6 ≤ 7220200; omega⟩ (fun t ht => ?_)
  subst ht
  refine asi (z := nI (apC nb (xs (i + 1)))) ht0 ?_
  refine lv_iload hx hb dL_law_945 (lv_at hl 1 rfl) ?_
  refine lv_icmp_eq (tgt := 952) hx hb dL_law_947 (by decide) (fun _ => ?_) (fun c => absurd rfl c)
  refine lv_iload hx hb dL_law_952 (lv_at hl 1 rfl) ?_
  have hcle : apC nb (xs (i + 1)) < 2 ^ 31 := by unfold apC; (repeat' split) <;> decide
  refine lv_if_ne (tgt := 969) hx hb dL_law_954 (by decide) (fun ck => ?_) (fun ck => ?_)
  · have hk : ¬ apC nb (xs (i + 1)) = 0 := fun h => ck (by rw [h]; rfl)
    refine lv_goto (tgt := 1710) hx hb dL_law_969 (by decide) ?_
    refine W.widen (k := cells + 2) (n := slots + 12) (by omega) (by omega) ?_
    exact KK _ _ _ ⟨f1, z1, F1, Z1, og1, v1, hh1, g1, _, _, _, _, _, (hr2 hk), (hm2 hk).2, hP, hD, hS⟩ (lv_sub hl [2, 3, 4, 5, 6] rfl)
  · have hk : apC nb (xs (i + 1)) = 0 := (nI_eq (a := apC nb (xs (i + 1))) (b := 0) hcle (by decide)).mp ck
    obtain ⟨ho1, hX1⟩ := hr1 hk
    obtain ⟨hr6, hM1⟩ := hm1 hk
    subst hr6
    have hl : lv_has ls 9 [(6, .int (nI (nb + 1))), (5, .int (nI (apC nb (xs (i + 1))))), (0, .ref bs), (1, .ref (a 34)), (2, .ref (am 0)), (3, .ref o), (4, .int (nI i))] := hl
    refine lv_aload_n hx hb dL_law_957 rfl (lv_at hl 5 rfl) ?_
    refine lv_iconst (v := nI 0) hx hb dL_law_958 (by decide) ?_
    refine va_lald hx hb hK hP 0 2 rfl rfl (vp_in_nI (by omega) (by omega)) dL_law_959 ?_
    refine asl (z := (nI (nb + 1)).toInt64) ((congrArg og1 (nI_clamp (by omega))).trans ho1) ?_
    refine lv_iload hx hb dL_law_960 (lv_at hl 0 rfl) ?_
    refine lv_i2l (v := (nI (nb + 1)).toInt64) hx hb dL_law_962 rfl ?_
    refine rLcmp hx hb dL_law_963 ?_
    refine lv_if_eq (tgt := 969) hx hb dL_law_964 (by decide) (fun _ => ?_) (fun c => absurd rfl c)
    refine lv_goto (tgt := 1710) hx hb dL_law_969 (by decide) ?_
    refine W.widen (k := cells + 2) (n := slots + 12) (by omega) (by omega) ?_
    exact KK _ _ _ ⟨f1, z1, F1, Z1, og1, v1, hh1, g1, _, _, _, _, _, hX1, hM1, hP, hD, hS⟩ (lv_sub hl [2, 3, 4, 5, 6] rfl)

set_option maxHeartbeats 4000000 in
set_option maxRecDepth 100000 in
theorem lw_s_clearBuffer {p : Program} {l : Launch} {e : Env} {s : State} {m : MethodId} {below : List Frame} {meth : Method} {c : Code} {bs L : Nat} {xs : Nat → Int32} {Q : State → Prop} (C0 : lw_At p s m meth c bs L xs) (hfl : l.stackTraces = false) (hL : L ≤ 3072) {Γ : Gm} (hK : gK Γ s) (hE : gE (fun q : Nat => s.heap.size ≤ q) s) {a : Nat → Nat} {b : Nat → Nat → Nat} {rf : Nat → Option Nat} (hrf : ∀ i, i < 6 → rf i = some (b i 0)) {am : Nat → Nat} {o i : Nat} (hi : i + 6 ≤ L) {cells slots : Nat} (hc : cells + 2 ≤ 625301) (hs : slots + 12 ≤ 7220200) {H : Heap} {locs : List Loc} (hI : SI Γ s a b rf am o H locs) {ls : Array Slot} (hl : lv_has ls 9 (LVs bs (a 34) (am 0) o i)) (KK : ∀ (H : Heap) (locs : List Loc) (ls : Array Slot), SI Γ s a b rf am o H locs → lv_has ls 9 (LVs bs (a 34) (am 0) o i) → W p l e room_1 s m #[Value.ref bs] below meth c H locs (cells + 2) (slots + 12) Q (F0 m 1710 ls [])) : W p l e room_1 s m #[Value.ref bs] below meth c H locs cells slots Q (F0 m 972 ls []) := by
  obtain ⟨hx, hb, hrt, hml, hown, hts0, hX0, hbl, hlk, hgv⟩ := id C0
  have hts : ∀ w ∈ wsL_law, w.before #[Value.ref bs] s = true := fun w h => hts0 w (wsL_law_in w h)
  have S : CallFix p m c cL_law 9 s #[Value.ref bs] wsL_law RL := ⟨hx, hb, hml, hown, hts⟩
  have hA : ∀ q : Nat, s.heap.size ≤ q → (fun q : Nat => s.heap.size ≤ q) q := fun _ h => h
  have hbA : ¬ (fun q : Nat => s.heap.size ≤ q) bs := Nat.not_le.mpr hbl
  obtain ⟨f, z, F, Z, og, v, hh, g, σ, sc, ss, nb, bb, hX, hM, hP, hD, hS⟩ := hI
  have hl : lv_has ls 9 [(0, .ref bs), (1, .ref (a 34)), (2, .ref (am 0)), (3, .ref o), (4, .int (nI i))] := hl
  refine lv_aload_n hx hb dL_law_972 rfl (lv_at hl 1 rfl) ?_
  refine xWi (As := []) (rest := []) (wr := wMd Γ am v hh g ++ [(o, oC Γ og)]) (m_X8_clearBuffer l Γ _ hfl a b rf hrf f z F Z σ sc ss nb bb hX) hE S k_X8_clearBuffer gL_law_X8_clearBuffer rfl ⟨(Nat.le_of_ble_eq_true rfl), (Nat.le_of_ble_eq_true rfl)⟩ hK (gP_perm hP (lw_pm (o, oC Γ og) (wXo Γ a b rf f z F Z) (wMd Γ am v hh g))) (gD_perm hD (lw_pm (o, oC Γ og) (wXo Γ a b rf f z F Z) (wMd Γ am v hh g))) hS hA 0 (ci := 8) rfl rfl rfl rfl hl.1 (Nat.le_of_ble_eq_true rfl) rfl dL_law_973 ⟨by show cells + 0 + 0 ≤ 625301; omega, by show slots + 0 + 0 ≤ 7220200; omega⟩ (fun E ce q9 H1 locs1 hp _ _ _ _ _ _ _ => hp.elim) (fun r u H locs hr hP hD hS => ?_)
  obtain ⟨f1, z1, F1, Z1⟩ := u
  obtain ⟨hr, hX1⟩ := hr
  subst hr
  have hP : gP Γ (wLw Γ a b rf f1 z1 F1 Z1 o og am v hh g) H := gP_perm hP (lw_pm (o, oC Γ og) (wXo Γ a b rf f1 z1 F1 Z1) (wMd Γ am v hh g)).symm
  have hD : va_D (fun q : Nat => s.heap.size ≤ q) (wLw Γ a b rf f1 z1 F1 Z1 o og am v hh g) := gD_perm hD (lw_pm (o, oC Γ og) (wXo Γ a b rf f1 z1 F1 Z1) (wMd Γ am v hh g)).symm
  refine lv_aload_n hx hb dL_law_976 rfl (lv_at hl 2 rfl) ?_
  refine aWi (As := []) (rest := [.int (nI nb)]) (wr := (o, oC Γ og) :: wXo Γ a b rf f1 z1 F1 Z1) (m_X9_clearBuffer l Γ _ am v hh g σ sc ss nb bb hM ) S k_X9_clearBuffer gL_law_X9_clearBuffer rfl ⟨(Nat.le_of_ble_eq_true rfl), (Nat.le_of_ble_eq_true rfl)⟩ hK (gP_sw hP) (gD_sw hD) hS hA 0 (ci := 9) rfl rfl rfl rfl hl.1 (Nat.le_of_ble_eq_true rfl) rfl dL_law_977 ⟨by show cells + 0 + 0 ≤ 625301; omega, by show slots + 0 + 0 ≤ 7220200; omega⟩ (fun r u H locs hr hP hD hS => ?_)
  obtain ⟨v1, hh1, g1⟩ := u
  have hP : gP Γ (wLw Γ a b rf f1 z1 F1 Z1 o og am v1 hh1 g1) H := gP_sw (w1 := wMd Γ am v1 hh1 g1) hP
  have hD : va_D (fun q : Nat => s.heap.size ≤ q) (wLw Γ a b rf f1 z1 F1 Z1 o og am v1 hh1 g1) := gD_sw (w1 := wMd Γ am v1 hh1 g1) hD
  obtain ⟨-, hm1, -⟩ := hr
  obtain ⟨hr, hM1⟩ := hm1 rfl
  subst hr
  refine lv_icmp_eq (tgt := 1710) hx hb dL_law_980 (by decide) (fun _ => ?_) (fun c => absurd rfl c)
  refine W.widen (k := cells + 2) (n := slots + 12) (by omega) (by omega) ?_
  exact KK _ _ _ ⟨f1, z1, F1, Z1, og, v1, hh1, g1, _, _, _, _, _, hX1, hM1, hP, hD, hS⟩ (lv_sub hl [0, 1, 2, 3, 4] rfl)

set_option maxHeartbeats 4000000 in
set_option maxRecDepth 100000 in
theorem lw_s_firstError {p : Program} {l : Launch} {e : Env} {s : State} {m : MethodId} {below : List Frame} {meth : Method} {c : Code} {bs L : Nat} {xs : Nat → Int32} {Q : State → Prop} (C0 : lw_At p s m meth c bs L xs) (hfl : l.stackTraces = false) (hL : L ≤ 3072) {Γ : Gm} (hK : gK Γ s) (hE : gE (fun q : Nat => s.heap.size ≤ q) s) {a : Nat → Nat} {b : Nat → Nat → Nat} {rf : Nat → Option Nat} (hrf : ∀ i, i < 6 → rf i = some (b i 0)) {am : Nat → Nat} {o i : Nat} (hi : i + 6 ≤ L) {cells slots : Nat} (hc : cells + 2 ≤ 625301) (hs : slots + 12 ≤ 7220200) {H : Heap} {locs : List Loc} (hI : SI Γ s a b rf am o H locs) {ls : Array Slot} (hl : lv_has ls 9 (LVs bs (a 34) (am 0) o i)) (KK : ∀ (H : Heap) (locs : List Loc) (ls : Array Slot), SI Γ s a b rf am o H locs → lv_has ls 9 (LVs bs (a 34) (am 0) o i) → W p l e room_1 s m #[Value.ref bs] below meth c H locs (cells + 2) (slots + 12) Q (F0 m 1710 ls [])) : W p l e room_1 s m #[Value.ref bs] below meth c H locs cells slots Q (F0 m 985 ls []) := by
  obtain ⟨hx, hb, hrt, hml, hown, hts0, hX0, hbl, hlk, hgv⟩ := id C0
  have hts : ∀ w ∈ wsL_law, w.before #[Value.ref bs] s = true := fun w h => hts0 w (wsL_law_in w h)
  have S : CallFix p m c cL_law 9 s #[Value.ref bs] wsL_law RL := ⟨hx, hb, hml, hown, hts⟩
  have hA : ∀ q : Nat, s.heap.size ≤ q → (fun q : Nat => s.heap.size ≤ q) q := fun _ h => h
  have hbA : ¬ (fun q : Nat => s.heap.size ≤ q) bs := Nat.not_le.mpr hbl
  obtain ⟨f, z, F, Z, og, v, hh, g, σ, sc, ss, nb, bb, hX, hM, hP, hD, hS⟩ := hI
  have hl : lv_has ls 9 [(0, .ref bs), (1, .ref (a 34)), (2, .ref (am 0)), (3, .ref o), (4, .int (nI i))] := hl
  refine lv_aload_n hx hb dL_law_985 rfl (lv_at hl 1 rfl) ?_
  refine rRi (As := []) (rest := []) (wr := wMd Γ am v hh g ++ [(o, oC Γ og)]) (m_X8_firstError l Γ a b rf hrf f z F Z σ sc ss nb bb hX) S k_X8_firstError gL_law_X8_firstError rfl ⟨(Nat.le_of_ble_eq_true rfl), (Nat.le_of_ble_eq_true rfl)⟩ hK (gP_perm hP (lw_pm (o, oC Γ og) (wXo Γ a b rf f z F Z) (wMd Γ am v hh g))) 0 (ci := 8) rfl rfl rfl rfl hl.1 (Nat.le_of_ble_eq_true rfl) rfl dL_law_986 ⟨by show cells ≤ 625301; omega, by show slots ≤ 7220200; omega⟩ (fun r hr => ?_)
  subst hr
  refine lv_aload_n hx hb dL_law_989 rfl (lv_at hl 2 rfl) ?_
  refine aWi (As := []) (rest := [.int (nI (errN bb nb))]) (wr := (o, oC Γ og) :: wXo Γ a b rf f z F Z) (m_X9_firstError l Γ _ am v hh g σ sc ss nb bb hM ) S k_X9_firstError gL_law_X9_firstError rfl ⟨(Nat.le_of_ble_eq_true rfl), (Nat.le_of_ble_eq_true rfl)⟩ hK (gP_sw hP) (gD_sw hD) hS hA 0 (ci := 9) rfl rfl rfl rfl hl.1 (Nat.le_of_ble_eq_true rfl) rfl dL_law_990 ⟨by show cells + 0 + 0 ≤ 625301; omega, by show slots + 0 + 0 ≤ 7220200; omega⟩ (fun r u H locs hr hP hD hS => ?_)
  obtain ⟨v1, hh1, g1⟩ := u
  have hP : gP Γ (wLw Γ a b rf f z F Z o og am v1 hh1 g1) H := gP_sw (w1 := wMd Γ am v1 hh1 g1) hP
  have hD : va_D (fun q : Nat => s.heap.size ≤ q) (wLw Γ a b rf f z F Z o og am v1 hh1 g1) := gD_sw (w1 := wMd Γ am v1 hh1 g1) hD
  obtain ⟨-, hm1, -⟩ := hr
  obtain ⟨hr, hM1⟩ := hm1 rfl
  subst hr
  refine lv_icmp_eq (tgt := 1710) hx hb dL_law_993 (by decide) (fun _ => ?_) (fun c => absurd rfl c)
  refine W.widen (k := cells + 2) (n := slots + 12) (by omega) (by omega) ?_
  exact KK _ _ _ ⟨f, z, F, Z, og, v1, hh1, g1, _, _, _, _, _, hX, hM1, hP, hD, hS⟩ (lv_sub hl [0, 1, 2, 3, 4] rfl)

set_option maxHeartbeats 4000000 in
set_option maxRecDepth 100000 in
theorem lw_s_rows {p : Program} {l : Launch} {e : Env} {s : State} {m : MethodId} {below : List Frame} {meth : Method} {c : Code} {bs L : Nat} {xs : Nat → Int32} {Q : State → Prop} (C0 : lw_At p s m meth c bs L xs) (hfl : l.stackTraces = false) (hL : L ≤ 3072) {Γ : Gm} (hK : gK Γ s) (hE : gE (fun q : Nat => s.heap.size ≤ q) s) {a : Nat → Nat} {b : Nat → Nat → Nat} {rf : Nat → Option Nat} (hrf : ∀ i, i < 6 → rf i = some (b i 0)) {am : Nat → Nat} {o i : Nat} (hi : i + 6 ≤ L) {cells slots : Nat} (hc : cells + 2 ≤ 625301) (hs : slots + 12 ≤ 7220200) {H : Heap} {locs : List Loc} (hI : SI Γ s a b rf am o H locs) {ls : Array Slot} (hl : lv_has ls 9 (LVs bs (a 34) (am 0) o i)) (KK : ∀ (H : Heap) (locs : List Loc) (ls : Array Slot), SI Γ s a b rf am o H locs → lv_has ls 9 (LVs bs (a 34) (am 0) o i) → W p l e room_1 s m #[Value.ref bs] below meth c H locs (cells + 2) (slots + 12) Q (F0 m 1710 ls [])) : W p l e room_1 s m #[Value.ref bs] below meth c H locs cells slots Q (F0 m 998 ls []) := by
  obtain ⟨hx, hb, hrt, hml, hown, hts0, hX0, hbl, hlk, hgv⟩ := id C0
  have hts : ∀ w ∈ wsL_law, w.before #[Value.ref bs] s = true := fun w h => hts0 w (wsL_law_in w h)
  have S : CallFix p m c cL_law 9 s #[Value.ref bs] wsL_law RL := ⟨hx, hb, hml, hown, hts⟩
  have hA : ∀ q : Nat, s.heap.size ≤ q → (fun q : Nat => s.heap.size ≤ q) q := fun _ h => h
  have hbA : ¬ (fun q : Nat => s.heap.size ≤ q) bs := Nat.not_le.mpr hbl
  obtain ⟨f, z, F, Z, og, v, hh, g, σ, sc, ss, nb, bb, hX, hM, hP, hD, hS⟩ := hI
  have hl : lv_has ls 9 [(0, .ref bs), (1, .ref (a 34)), (2, .ref (am 0)), (3, .ref o), (4, .int (nI i))] := hl
  refine lv_aload_n hx hb dL_law_998 rfl (lv_at hl 1 rfl) ?_
  refine lv_aload_n hx hb dL_law_999 rfl (lv_at hl 3 rfl) ?_
  refine hCi (As := [.ref (a 34), .ref o]) (rest := []) (m_L_rows l hfl Γ _ a b rf hrf f z F Z σ sc ss nb bb hX o og ) hE S k_L_rows gL_law_L_rows ⟨(Nat.le_of_ble_eq_true rfl), (Nat.le_of_ble_eq_true rfl)⟩ hK hP hD hS hA rfl hl.1 (Nat.le_of_ble_eq_true rfl) rfl dL_law_1000 ⟨by show cells + 0 + 1 ≤ 625301; omega, by show slots + 0 + 6 ≤ 7220200; omega⟩ (fun r u H locs hr hP hD hS => ?_)
  obtain ⟨⟨f1, z1, F1, Z1⟩, og1⟩ := u
  obtain ⟨hr0, hr1, hr2⟩ := hr
  subst hr0
  have hP : gP Γ (wLw Γ a b rf f1 z1 F1 Z1 o og1 am v hh g) H := hP
  have hD : va_D (fun q : Nat => s.heap.size ≤ q) (wLw Γ a b rf f1 z1 F1 Z1 o og1 am v hh g) := hD
  refine lv_istore (lv' := [(5, .int (nI (rsC bb nb))), (0, .ref bs), (1, .ref (a 34)), (2, .ref (am 0)), (3, .ref o), (4, .int (nI i))]) hx hb dL_law_1003 hl (by decide) rfl (fun ls hl => ?_)
  refine lv_aload_n hx hb dL_law_1005 rfl (lv_at hl 3 rfl) ?_
  refine aWi (As := []) (rest := []) (wr := (o, oC Γ og1) :: wXo Γ a b rf f1 z1 F1 Z1) (m_X9_rows l Γ _ am v hh g σ sc ss nb bb hM ) S k_X9_rows gL_law_X9_rows rfl ⟨(Nat.le_of_ble_eq_true rfl), (Nat.le_of_ble_eq_true rfl)⟩ hK (gP_sw hP) (gD_sw hD) hS hA 0 (ci := 9) rfl rfl rfl rfl hl.1 (Nat.le_of_ble_eq_true rfl) rfl dL_law_1006 ⟨by show cells + 1 + 0 ≤ 625301; omega, by show slots + 6 + 0 ≤ 7220200; omega⟩ (fun r u H locs hr hP hD hS => ?_)
  obtain ⟨v1, hh1, g1⟩ := u
  have hP : gP Γ (wLw Γ a b rf f1 z1 F1 Z1 o og1 am v1 hh1 g1) H := gP_sw (w1 := wMd Γ am v1 hh1 g1) hP
  have hD : va_D (fun q : Nat => s.heap.size ≤ q) (wLw Γ a b rf f1 z1 F1 Z1 o og1 am v1 hh1 g1) := gD_sw (w1 := wMd Γ am v1 hh1 g1) hD
  obtain ⟨ht0, hm1, hm2⟩ := hr
  refine lv_istore (lv' := [(6, .int r), (5, .int (nI (rsC bb nb))), (0, .ref bs), (1, .ref (a 34)), (2, .ref (am 0)), (3, .ref o), (4, .int (nI i))]) hx hb dL_law_1009 hl (by decide) rfl (fun ls hl => ?_)
  refine lv_aload_n hx hb dL_law_1011 rfl (lv_at hl 4 rfl) ?_
  refine rRi (As := []) (rest := []) (wr := (o, oC Γ og1) :: wXo Γ a b rf f1 z1 F1 Z1) (m_X9_thrown l Γ am v1 hh1 g1) S k_X9_thrown gL_law_X9_thrown rfl ⟨(Nat.le_of_ble_eq_true rfl), (Nat.le_of_ble_eq_true rfl)⟩ hK (gP_sw hP) 0 (ci := 9) rfl rfl rfl rfl hl.1 (Nat.le_of_ble_eq_true rfl) rfl dL_law_1012 ⟨by show cells + 1 ≤ 625301; omega, by show slots + 6 ≤ 7220200; omega⟩ (fun t ht => ?_)
  subst ht
  refine asi (z := nI (rsC bb nb)) ht0 ?_
  refine lv_iload hx hb dL_law_1015 (lv_at hl 1 rfl) ?_
  refine lv_icmp_eq (tgt := 1022) hx hb dL_law_1017 (by decide) (fun _ => ?_) (fun c => absurd rfl c)
  refine lv_iload hx hb dL_law_1022 (lv_at hl 1 rfl) ?_
  have hcle : rsC bb nb < 2 ^ 31 := by unfold rsC; (repeat' split) <;> decide
  refine lv_if_ne (tgt := 1039) hx hb dL_law_1024 (by decide) (fun ck => ?_) (fun ck => ?_)
  · have hk : ¬ rsC bb nb = 0 := fun h => ck (by rw [h]; rfl)
    refine lv_goto (tgt := 1710) hx hb dL_law_1039 (by decide) ?_
    refine W.widen (k := cells + 2) (n := slots + 12) (by omega) (by omega) ?_
    exact KK _ _ _ ⟨f1, z1, F1, Z1, og1, v1, hh1, g1, _, _, _, _, _, (hr2 hk), (hm2 hk).2, hP, hD, hS⟩ (lv_sub hl [2, 3, 4, 5, 6] rfl)
  · have hk : rsC bb nb = 0 := (nI_eq (a := rsC bb nb) (b := 0) hcle (by decide)).mp ck
    obtain ⟨ho1, hX1⟩ := hr1 hk
    obtain ⟨hr6, hM1⟩ := hm1 hk
    subst hr6
    have hl : lv_has ls 9 [(6, .int (nI (cmeN σ bb nb))), (5, .int (nI (rsC bb nb))), (0, .ref bs), (1, .ref (a 34)), (2, .ref (am 0)), (3, .ref o), (4, .int (nI i))] := hl
    refine lv_aload_n hx hb dL_law_1027 rfl (lv_at hl 5 rfl) ?_
    refine lv_iconst (v := nI 0) hx hb dL_law_1028 (by decide) ?_
    refine va_lald hx hb hK hP 0 2 rfl rfl (vp_in_nI (by omega) (by omega)) dL_law_1029 ?_
    refine asl (z := (nI (cmeN σ bb nb)).toInt64) ((congrArg og1 (nI_clamp (by omega))).trans ho1) ?_
    refine lv_iload hx hb dL_law_1030 (lv_at hl 0 rfl) ?_
    refine lv_i2l (v := (nI (cmeN σ bb nb)).toInt64) hx hb dL_law_1032 rfl ?_
    refine rLcmp hx hb dL_law_1033 ?_
    refine lv_if_eq (tgt := 1039) hx hb dL_law_1034 (by decide) (fun _ => ?_) (fun c => absurd rfl c)
    refine lv_goto (tgt := 1710) hx hb dL_law_1039 (by decide) ?_
    refine W.widen (k := cells + 2) (n := slots + 12) (by omega) (by omega) ?_
    exact KK _ _ _ ⟨f1, z1, F1, Z1, og1, v1, hh1, g1, _, _, _, _, _, hX1, hM1, hP, hD, hS⟩ (lv_sub hl [2, 3, 4, 5, 6] rfl)

set_option maxHeartbeats 4000000 in
set_option maxRecDepth 100000 in
theorem lw_s_undo {p : Program} {l : Launch} {e : Env} {s : State} {m : MethodId} {below : List Frame} {meth : Method} {c : Code} {bs L : Nat} {xs : Nat → Int32} {Q : State → Prop} (C0 : lw_At p s m meth c bs L xs) (hfl : l.stackTraces = false) (hL : L ≤ 3072) {Γ : Gm} (hK : gK Γ s) (hE : gE (fun q : Nat => s.heap.size ≤ q) s) {a : Nat → Nat} {b : Nat → Nat → Nat} {rf : Nat → Option Nat} (hrf : ∀ i, i < 6 → rf i = some (b i 0)) {am : Nat → Nat} {o i : Nat} (hi : i + 6 ≤ L) {cells slots : Nat} (hc : cells + 2 ≤ 625301) (hs : slots + 12 ≤ 7220200) {H : Heap} {locs : List Loc} (hI : SI Γ s a b rf am o H locs) {ls : Array Slot} (hl : lv_has ls 9 (LVs bs (a 34) (am 0) o i)) (KK : ∀ (H : Heap) (locs : List Loc) (ls : Array Slot), SI Γ s a b rf am o H locs → lv_has ls 9 (LVs bs (a 34) (am 0) o i) → W p l e room_1 s m #[Value.ref bs] below meth c H locs (cells + 2) (slots + 12) Q (F0 m 1710 ls [])) : W p l e room_1 s m #[Value.ref bs] below meth c H locs cells slots Q (F0 m 1042 ls []) := by
  obtain ⟨hx, hb, hrt, hml, hown, hts0, hX0, hbl, hlk, hgv⟩ := id C0
  have hts : ∀ w ∈ wsL_law, w.before #[Value.ref bs] s = true := fun w h => hts0 w (wsL_law_in w h)
  have S : CallFix p m c cL_law 9 s #[Value.ref bs] wsL_law RL := ⟨hx, hb, hml, hown, hts⟩
  have hA : ∀ q : Nat, s.heap.size ≤ q → (fun q : Nat => s.heap.size ≤ q) q := fun _ h => h
  have hbA : ¬ (fun q : Nat => s.heap.size ≤ q) bs := Nat.not_le.mpr hbl
  obtain ⟨f, z, F, Z, og, v, hh, g, σ, sc, ss, nb, bb, hX, hM, hP, hD, hS⟩ := hI
  have hl : lv_has ls 9 [(0, .ref bs), (1, .ref (a 34)), (2, .ref (am 0)), (3, .ref o), (4, .int (nI i))] := hl
  refine lv_aload_n hx hb dL_law_1042 rfl (lv_at hl 1 rfl) ?_
  refine lv_aload_n hx hb dL_law_1043 rfl (lv_at hl 3 rfl) ?_
  refine hCi (As := [.ref (a 34), .ref o]) (rest := []) (m_L_undo l hfl Γ _ a b rf hrf f z F Z σ sc ss nb bb hX o og ) hE S k_L_undo gL_law_L_undo ⟨(Nat.le_of_ble_eq_true rfl), (Nat.le_of_ble_eq_true rfl)⟩ hK hP hD hS hA rfl hl.1 (Nat.le_of_ble_eq_true rfl) rfl dL_law_1044 ⟨by show cells + 0 + 1 ≤ 625301; omega, by show slots + 0 + 6 ≤ 7220200; omega⟩ (fun r u H locs hr hP hD hS => ?_)
  obtain ⟨⟨f1, z1, F1, Z1⟩, og1⟩ := u
  obtain ⟨hr0, hr1, hr2⟩ := hr
  subst hr0
  have hP : gP Γ (wLw Γ a b rf f1 z1 F1 Z1 o og1 am v hh g) H := hP
  have hD : va_D (fun q : Nat => s.heap.size ≤ q) (wLw Γ a b rf f1 z1 F1 Z1 o og1 am v hh g) := hD
  refine lv_istore (lv' := [(5, .int (nI (unC sc))), (0, .ref bs), (1, .ref (a 34)), (2, .ref (am 0)), (3, .ref o), (4, .int (nI i))]) hx hb dL_law_1047 hl (by decide) rfl (fun ls hl => ?_)
  refine lv_aload_n hx hb dL_law_1049 rfl (lv_at hl 3 rfl) ?_
  refine aWi (As := []) (rest := []) (wr := (o, oC Γ og1) :: wXo Γ a b rf f1 z1 F1 Z1) (m_X9_undo l Γ _ am v hh g σ sc ss nb bb hM ) S k_X9_undo gL_law_X9_undo rfl ⟨(Nat.le_of_ble_eq_true rfl), (Nat.le_of_ble_eq_true rfl)⟩ hK (gP_sw hP) (gD_sw hD) hS hA 0 (ci := 9) rfl rfl rfl rfl hl.1 (Nat.le_of_ble_eq_true rfl) rfl dL_law_1050 ⟨by show cells + 1 + 0 ≤ 625301; omega, by show slots + 6 + 0 ≤ 7220200; omega⟩ (fun r u H locs hr hP hD hS => ?_)
  obtain ⟨v1, hh1, g1⟩ := u
  have hP : gP Γ (wLw Γ a b rf f1 z1 F1 Z1 o og1 am v1 hh1 g1) H := gP_sw (w1 := wMd Γ am v1 hh1 g1) hP
  have hD : va_D (fun q : Nat => s.heap.size ≤ q) (wLw Γ a b rf f1 z1 F1 Z1 o og1 am v1 hh1 g1) := gD_sw (w1 := wMd Γ am v1 hh1 g1) hD
  obtain ⟨ht0, hm1, hm2⟩ := hr
  refine lv_istore (lv' := [(6, .int r), (5, .int (nI (unC sc))), (0, .ref bs), (1, .ref (a 34)), (2, .ref (am 0)), (3, .ref o), (4, .int (nI i))]) hx hb dL_law_1053 hl (by decide) rfl (fun ls hl => ?_)
  refine lv_aload_n hx hb dL_law_1055 rfl (lv_at hl 4 rfl) ?_
  refine rRi (As := []) (rest := []) (wr := (o, oC Γ og1) :: wXo Γ a b rf f1 z1 F1 Z1) (m_X9_thrown l Γ am v1 hh1 g1) S k_X9_thrown gL_law_X9_thrown rfl ⟨(Nat.le_of_ble_eq_true rfl), (Nat.le_of_ble_eq_true rfl)⟩ hK (gP_sw hP) 0 (ci := 9) rfl rfl rfl rfl hl.1 (Nat.le_of_ble_eq_true rfl) rfl dL_law_1056 ⟨by show cells + 1 ≤ 625301; omega, by show slots + 6 ≤ 7220200; omega⟩ (fun t ht => ?_)
  subst ht
  refine asi (z := nI (unC sc)) ht0 ?_
  refine lv_iload hx hb dL_law_1059 (lv_at hl 1 rfl) ?_
  refine lv_icmp_eq (tgt := 1066) hx hb dL_law_1061 (by decide) (fun _ => ?_) (fun c => absurd rfl c)
  refine lv_iload hx hb dL_law_1066 (lv_at hl 1 rfl) ?_
  have hcle : unC sc < 2 ^ 31 := by unfold unC; (repeat' split) <;> decide
  refine lv_if_ne (tgt := 1083) hx hb dL_law_1068 (by decide) (fun ck => ?_) (fun ck => ?_)
  · have hk : ¬ unC sc = 0 := fun h => ck (by rw [h]; rfl)
    refine lv_goto (tgt := 1710) hx hb dL_law_1083 (by decide) ?_
    refine W.widen (k := cells + 2) (n := slots + 12) (by omega) (by omega) ?_
    exact KK _ _ _ ⟨f1, z1, F1, Z1, og1, v1, hh1, g1, _, _, _, _, _, (hr2 hk), (hm2 hk).2, hP, hD, hS⟩ (lv_sub hl [2, 3, 4, 5, 6] rfl)
  · have hk : unC sc = 0 := (nI_eq (a := unC sc) (b := 0) hcle (by decide)).mp ck
    obtain ⟨ho1, hX1⟩ := hr1 hk
    obtain ⟨hr6, hM1⟩ := hm1 hk
    subst hr6
    have hl : lv_has ls 9 [(6, .int (nI (sc - 1))), (5, .int (nI (unC sc))), (0, .ref bs), (1, .ref (a 34)), (2, .ref (am 0)), (3, .ref o), (4, .int (nI i))] := hl
    refine lv_aload_n hx hb dL_law_1071 rfl (lv_at hl 5 rfl) ?_
    refine lv_iconst (v := nI 0) hx hb dL_law_1072 (by decide) ?_
    refine va_lald hx hb hK hP 0 2 rfl rfl (vp_in_nI (by omega) (by omega)) dL_law_1073 ?_
    refine asl (z := (nI (sc - 1)).toInt64) ((congrArg og1 (nI_clamp (by omega))).trans ho1) ?_
    refine lv_iload hx hb dL_law_1074 (lv_at hl 0 rfl) ?_
    refine lv_i2l (v := (nI (sc - 1)).toInt64) hx hb dL_law_1076 rfl ?_
    refine rLcmp hx hb dL_law_1077 ?_
    refine lv_if_eq (tgt := 1083) hx hb dL_law_1078 (by decide) (fun _ => ?_) (fun c => absurd rfl c)
    refine lv_goto (tgt := 1710) hx hb dL_law_1083 (by decide) ?_
    refine W.widen (k := cells + 2) (n := slots + 12) (by omega) (by omega) ?_
    exact KK _ _ _ ⟨f1, z1, F1, Z1, og1, v1, hh1, g1, _, _, _, _, _, hX1, hM1, hP, hD, hS⟩ (lv_sub hl [2, 3, 4, 5, 6] rfl)

set_option maxHeartbeats 4000000 in
set_option maxRecDepth 100000 in
theorem lw_s_rowOf {p : Program} {l : Launch} {e : Env} {s : State} {m : MethodId} {below : List Frame} {meth : Method} {c : Code} {bs L : Nat} {xs : Nat → Int32} {Q : State → Prop} (C0 : lw_At p s m meth c bs L xs) (hfl : l.stackTraces = false) (hL : L ≤ 3072) {Γ : Gm} (hK : gK Γ s) (hE : gE (fun q : Nat => s.heap.size ≤ q) s) {a : Nat → Nat} {b : Nat → Nat → Nat} {rf : Nat → Option Nat} (hrf : ∀ i, i < 6 → rf i = some (b i 0)) {am : Nat → Nat} {o i : Nat} (hi : i + 6 ≤ L) {cells slots : Nat} (hc : cells + 2 ≤ 625301) (hs : slots + 12 ≤ 7220200) {H : Heap} {locs : List Loc} (hI : SI Γ s a b rf am o H locs) {ls : Array Slot} (hl : lv_has ls 9 (LVs bs (a 34) (am 0) o i)) (KK : ∀ (H : Heap) (locs : List Loc) (ls : Array Slot), SI Γ s a b rf am o H locs → lv_has ls 9 (LVs bs (a 34) (am 0) o i) → W p l e room_1 s m #[Value.ref bs] below meth c H locs (cells + 2) (slots + 12) Q (F0 m 1710 ls [])) : W p l e room_1 s m #[Value.ref bs] below meth c H locs cells slots Q (F0 m 1086 ls []) := by
  obtain ⟨hx, hb, hrt, hml, hown, hts0, hX0, hbl, hlk, hgv⟩ := id C0
  have hts : ∀ w ∈ wsL_law, w.before #[Value.ref bs] s = true := fun w h => hts0 w (wsL_law_in w h)
  have S : CallFix p m c cL_law 9 s #[Value.ref bs] wsL_law RL := ⟨hx, hb, hml, hown, hts⟩
  have hA : ∀ q : Nat, s.heap.size ≤ q → (fun q : Nat => s.heap.size ≤ q) q := fun _ h => h
  have hbA : ¬ (fun q : Nat => s.heap.size ≤ q) bs := Nat.not_le.mpr hbl
  obtain ⟨f, z, F, Z, og, v, hh, g, σ, sc, ss, nb, bb, hX, hM, hP, hD, hS⟩ := hI
  have hl : lv_has ls 9 [(0, .ref bs), (1, .ref (a 34)), (2, .ref (am 0)), (3, .ref o), (4, .int (nI i))] := hl
  refine lv_aload_n hx hb dL_law_1086 rfl (lv_at hl 1 rfl) ?_
  refine lv_aload_n hx hb dL_law_1087 rfl (lv_at hl 0 rfl) ?_
  refine lv_iload hx hb dL_law_1088 (lv_at hl 4 rfl) ?_
  refine lv_iconst (v := nI 1) hx hb dL_law_1090 (by decide) ?_
  refine lv_iadd hx hb dL_law_1091 ?_
  refine asi (z := nI (i + 1)) (nI_add _ _) ?_
  refine va_sld hx hb hX0 hbl hbA hS (vp_in_nI (by omega) (by omega)) dL_law_1092 ?_
  refine asi (z := xs (i + 1)) (congrArg xs (nI_clamp (by omega))) ?_
  refine lv_aload_n hx hb dL_law_1093 rfl (lv_at hl 0 rfl) ?_
  refine lv_iload hx hb dL_law_1094 (lv_at hl 4 rfl) ?_
  refine lv_iconst (v := nI 2) hx hb dL_law_1096 (by decide) ?_
  refine lv_iadd hx hb dL_law_1097 ?_
  refine asi (z := nI (i + 2)) (nI_add _ _) ?_
  refine va_sld hx hb hX0 hbl hbA hS (vp_in_nI (by omega) (by omega)) dL_law_1098 ?_
  refine asi (z := xs (i + 2)) (congrArg xs (nI_clamp (by omega))) ?_
  refine lv_aload_n hx hb dL_law_1099 rfl (lv_at hl 3 rfl) ?_
  refine hCi (As := [.ref (a 34), .int (xs (i + 1)), .int (xs (i + 2)), .ref o]) (rest := []) (m_L_rowOf l hfl Γ _ a b rf hrf f z F Z σ sc ss nb bb hX o og (xs (i + 1)) (xs (i + 2))) hE S k_L_rowOf gL_law_L_rowOf ⟨(Nat.le_of_ble_eq_true rfl), (Nat.le_of_ble_eq_true rfl)⟩ hK hP hD hS hA rfl hl.1 (Nat.le_of_ble_eq_true rfl) rfl dL_law_1100 ⟨by show cells + 0 + 2 ≤ 625301; omega, by show slots + 0 + 12 ≤ 7220200; omega⟩ (fun r u H locs hr hP hD hS => ?_)
  obtain ⟨⟨f1, z1, F1, Z1⟩, og1⟩ := u
  obtain ⟨hr0, hr1, hr2⟩ := hr
  subst hr0
  have hP : gP Γ (wLw Γ a b rf f1 z1 F1 Z1 o og1 am v hh g) H := hP
  have hD : va_D (fun q : Nat => s.heap.size ≤ q) (wLw Γ a b rf f1 z1 F1 Z1 o og1 am v hh g) := hD
  refine lv_istore (lv' := [(5, .int (nI (rwC σ (xs (i + 1)) (xs (i + 2))))), (0, .ref bs), (1, .ref (a 34)), (2, .ref (am 0)), (3, .ref o), (4, .int (nI i))]) hx hb dL_law_1103 hl (by decide) rfl (fun ls hl => ?_)
  refine lv_aload_n hx hb dL_law_1105 rfl (lv_at hl 3 rfl) ?_
  refine lv_aload_n hx hb dL_law_1106 rfl (lv_at hl 1 rfl) ?_
  refine lv_iload hx hb dL_law_1107 (lv_at hl 5 rfl) ?_
  refine lv_iconst (v := nI 1) hx hb dL_law_1109 (by decide) ?_
  refine lv_iadd hx hb dL_law_1110 ?_
  refine asi (z := nI (i + 1)) (nI_add _ _) ?_
  refine va_sld hx hb hX0 hbl hbA hS (vp_in_nI (by omega) (by omega)) dL_law_1111 ?_
  refine asi (z := xs (i + 1)) (congrArg xs (nI_clamp (by omega))) ?_
  refine lv_aload_n hx hb dL_law_1112 rfl (lv_at hl 1 rfl) ?_
  refine lv_iload hx hb dL_law_1113 (lv_at hl 5 rfl) ?_
  refine lv_iconst (v := nI 2) hx hb dL_law_1115 (by decide) ?_
  refine lv_iadd hx hb dL_law_1116 ?_
  refine asi (z := nI (i + 2)) (nI_add _ _) ?_
  refine va_sld hx hb hX0 hbl hbA hS (vp_in_nI (by omega) (by omega)) dL_law_1117 ?_
  refine asi (z := xs (i + 2)) (congrArg xs (nI_clamp (by omega))) ?_
  refine aWi (As := [.int (xs (i + 1)), .int (xs (i + 2))]) (rest := []) (wr := (o, oC Γ og1) :: wXo Γ a b rf f1 z1 F1 Z1) (m_X9_rowOf l Γ _ am v hh g σ sc ss nb bb hM (xs (i + 1)) (xs (i + 2))) S k_X9_rowOf gL_law_X9_rowOf rfl ⟨(Nat.le_of_ble_eq_true rfl), (Nat.le_of_ble_eq_true rfl)⟩ hK (gP_sw hP) (gD_sw hD) hS hA 0 (ci := 9) rfl rfl rfl rfl hl.1 (Nat.le_of_ble_eq_true rfl) rfl dL_law_1118 ⟨by show cells + 2 + 0 ≤ 625301; omega, by show slots + 12 + 0 ≤ 7220200; omega⟩ (fun r u H locs hr hP hD hS => ?_)
  obtain ⟨v1, hh1, g1⟩ := u
  have hP : gP Γ (wLw Γ a b rf f1 z1 F1 Z1 o og1 am v1 hh1 g1) H := gP_sw (w1 := wMd Γ am v1 hh1 g1) hP
  have hD : va_D (fun q : Nat => s.heap.size ≤ q) (wLw Γ a b rf f1 z1 F1 Z1 o og1 am v1 hh1 g1) := gD_sw (w1 := wMd Γ am v1 hh1 g1) hD
  obtain ⟨ht0, hm1, hm2⟩ := hr
  refine lv_istore (lv' := [(6, .int r), (5, .int (nI (rwC σ (xs (i + 1)) (xs (i + 2))))), (0, .ref bs), (1, .ref (a 34)), (2, .ref (am 0)), (3, .ref o), (4, .int (nI i))]) hx hb dL_law_1121 hl (by decide) rfl (fun ls hl => ?_)
  refine lv_aload_n hx hb dL_law_1123 rfl (lv_at hl 4 rfl) ?_
  refine rRi (As := []) (rest := []) (wr := (o, oC Γ og1) :: wXo Γ a b rf f1 z1 F1 Z1) (m_X9_thrown l Γ am v1 hh1 g1) S k_X9_thrown gL_law_X9_thrown rfl ⟨(Nat.le_of_ble_eq_true rfl), (Nat.le_of_ble_eq_true rfl)⟩ hK (gP_sw hP) 0 (ci := 9) rfl rfl rfl rfl hl.1 (Nat.le_of_ble_eq_true rfl) rfl dL_law_1124 ⟨by show cells + 2 ≤ 625301; omega, by show slots + 12 ≤ 7220200; omega⟩ (fun t ht => ?_)
  subst ht
  refine asi (z := nI (rwC σ (xs (i + 1)) (xs (i + 2)))) ht0 ?_
  refine lv_iload hx hb dL_law_1127 (lv_at hl 1 rfl) ?_
  refine lv_icmp_eq (tgt := 1134) hx hb dL_law_1129 (by decide) (fun _ => ?_) (fun c => absurd rfl c)
  refine lv_iload hx hb dL_law_1134 (lv_at hl 1 rfl) ?_
  have hcle : rwC σ (xs (i + 1)) (xs (i + 2)) < 2 ^ 31 := by unfold rwC; (repeat' split) <;> decide
  refine lv_if_ne (tgt := 1151) hx hb dL_law_1136 (by decide) (fun ck => ?_) (fun ck => ?_)
  · have hk : ¬ rwC σ (xs (i + 1)) (xs (i + 2)) = 0 := fun h => ck (by rw [h]; rfl)
    refine lv_goto (tgt := 1710) hx hb dL_law_1151 (by decide) ?_
    refine W.widen (k := cells + 2) (n := slots + 12) (by omega) (by omega) ?_
    exact KK _ _ _ ⟨f1, z1, F1, Z1, og1, v1, hh1, g1, _, _, _, _, _, (hr2 hk), (hm2 hk).2, hP, hD, hS⟩ (lv_sub hl [2, 3, 4, 5, 6] rfl)
  · have hk : rwC σ (xs (i + 1)) (xs (i + 2)) = 0 := (nI_eq (a := rwC σ (xs (i + 1)) (xs (i + 2))) (b := 0) hcle (by decide)).mp ck
    obtain ⟨ho1, hX1⟩ := hr1 hk
    obtain ⟨hr6, hM1⟩ := hm1 hk
    subst hr6
    have hl : lv_has ls 9 [(6, .int (nI (rowN σ (xs (i + 1)).toNatClampNeg (xs (i + 2)).toNatClampNeg))), (5, .int (nI (rwC σ (xs (i + 1)) (xs (i + 2))))), (0, .ref bs), (1, .ref (a 34)), (2, .ref (am 0)), (3, .ref o), (4, .int (nI i))] := hl
    refine lv_aload_n hx hb dL_law_1139 rfl (lv_at hl 5 rfl) ?_
    refine lv_iconst (v := nI 0) hx hb dL_law_1140 (by decide) ?_
    refine va_lald hx hb hK hP 0 2 rfl rfl (vp_in_nI (by omega) (by omega)) dL_law_1141 ?_
    refine asl (z := (nI (rowN σ (xs (i + 1)).toNatClampNeg (xs (i + 2)).toNatClampNeg)).toInt64) ((congrArg og1 (nI_clamp (by omega))).trans ho1) ?_
    refine lv_iload hx hb dL_law_1142 (lv_at hl 0 rfl) ?_
    refine lv_i2l (v := (nI (rowN σ (xs (i + 1)).toNatClampNeg (xs (i + 2)).toNatClampNeg)).toInt64) hx hb dL_law_1144 rfl ?_
    refine rLcmp hx hb dL_law_1145 ?_
    refine lv_if_eq (tgt := 1151) hx hb dL_law_1146 (by decide) (fun _ => ?_) (fun c => absurd rfl c)
    refine lv_goto (tgt := 1710) hx hb dL_law_1151 (by decide) ?_
    refine W.widen (k := cells + 2) (n := slots + 12) (by omega) (by omega) ?_
    exact KK _ _ _ ⟨f1, z1, F1, Z1, og1, v1, hh1, g1, _, _, _, _, _, hX1, hM1, hP, hD, hS⟩ (lv_sub hl [2, 3, 4, 5, 6] rfl)

set_option maxHeartbeats 4000000 in
set_option maxRecDepth 100000 in
theorem lw_s_personOf {p : Program} {l : Launch} {e : Env} {s : State} {m : MethodId} {below : List Frame} {meth : Method} {c : Code} {bs L : Nat} {xs : Nat → Int32} {Q : State → Prop} (C0 : lw_At p s m meth c bs L xs) (hfl : l.stackTraces = false) (hL : L ≤ 3072) {Γ : Gm} (hK : gK Γ s) (hE : gE (fun q : Nat => s.heap.size ≤ q) s) {a : Nat → Nat} {b : Nat → Nat → Nat} {rf : Nat → Option Nat} (hrf : ∀ i, i < 6 → rf i = some (b i 0)) {am : Nat → Nat} {o i : Nat} (hi : i + 6 ≤ L) {cells slots : Nat} (hc : cells + 2 ≤ 625301) (hs : slots + 12 ≤ 7220200) {H : Heap} {locs : List Loc} (hI : SI Γ s a b rf am o H locs) {ls : Array Slot} (hl : lv_has ls 9 (LVs bs (a 34) (am 0) o i)) (KK : ∀ (H : Heap) (locs : List Loc) (ls : Array Slot), SI Γ s a b rf am o H locs → lv_has ls 9 (LVs bs (a 34) (am 0) o i) → W p l e room_1 s m #[Value.ref bs] below meth c H locs (cells + 2) (slots + 12) Q (F0 m 1710 ls [])) : W p l e room_1 s m #[Value.ref bs] below meth c H locs cells slots Q (F0 m 1154 ls []) := by
  obtain ⟨hx, hb, hrt, hml, hown, hts0, hX0, hbl, hlk, hgv⟩ := id C0
  have hts : ∀ w ∈ wsL_law, w.before #[Value.ref bs] s = true := fun w h => hts0 w (wsL_law_in w h)
  have S : CallFix p m c cL_law 9 s #[Value.ref bs] wsL_law RL := ⟨hx, hb, hml, hown, hts⟩
  have hA : ∀ q : Nat, s.heap.size ≤ q → (fun q : Nat => s.heap.size ≤ q) q := fun _ h => h
  have hbA : ¬ (fun q : Nat => s.heap.size ≤ q) bs := Nat.not_le.mpr hbl
  obtain ⟨f, z, F, Z, og, v, hh, g, σ, sc, ss, nb, bb, hX, hM, hP, hD, hS⟩ := hI
  have hl : lv_has ls 9 [(0, .ref bs), (1, .ref (a 34)), (2, .ref (am 0)), (3, .ref o), (4, .int (nI i))] := hl
  refine lv_aload_n hx hb dL_law_1154 rfl (lv_at hl 1 rfl) ?_
  refine lv_aload_n hx hb dL_law_1155 rfl (lv_at hl 0 rfl) ?_
  refine lv_iload hx hb dL_law_1156 (lv_at hl 4 rfl) ?_
  refine lv_iconst (v := nI 1) hx hb dL_law_1158 (by decide) ?_
  refine lv_iadd hx hb dL_law_1159 ?_
  refine asi (z := nI (i + 1)) (nI_add _ _) ?_
  refine va_sld hx hb hX0 hbl hbA hS (vp_in_nI (by omega) (by omega)) dL_law_1160 ?_
  refine asi (z := xs (i + 1)) (congrArg xs (nI_clamp (by omega))) ?_
  refine lv_aload_n hx hb dL_law_1161 rfl (lv_at hl 0 rfl) ?_
  refine lv_iload hx hb dL_law_1162 (lv_at hl 4 rfl) ?_
  refine lv_iconst (v := nI 2) hx hb dL_law_1164 (by decide) ?_
  refine lv_iadd hx hb dL_law_1165 ?_
  refine asi (z := nI (i + 2)) (nI_add _ _) ?_
  refine va_sld hx hb hX0 hbl hbA hS (vp_in_nI (by omega) (by omega)) dL_law_1166 ?_
  refine asi (z := xs (i + 2)) (congrArg xs (nI_clamp (by omega))) ?_
  refine lv_aload_n hx hb dL_law_1167 rfl (lv_at hl 3 rfl) ?_
  refine hCi (As := [.ref (a 34), .int (xs (i + 1)), .int (xs (i + 2)), .ref o]) (rest := []) (m_L_personOf l hfl Γ _ a b rf hrf f z F Z σ sc ss nb bb hX o og (xs (i + 1)) (xs (i + 2))) hE S k_L_personOf gL_law_L_personOf ⟨(Nat.le_of_ble_eq_true rfl), (Nat.le_of_ble_eq_true rfl)⟩ hK hP hD hS hA rfl hl.1 (Nat.le_of_ble_eq_true rfl) rfl dL_law_1168 ⟨by show cells + 0 + 2 ≤ 625301; omega, by show slots + 0 + 12 ≤ 7220200; omega⟩ (fun r u H locs hr hP hD hS => ?_)
  obtain ⟨⟨f1, z1, F1, Z1⟩, og1⟩ := u
  obtain ⟨hr0, hr1, hr2⟩ := hr
  subst hr0
  have hP : gP Γ (wLw Γ a b rf f1 z1 F1 Z1 o og1 am v hh g) H := hP
  have hD : va_D (fun q : Nat => s.heap.size ≤ q) (wLw Γ a b rf f1 z1 F1 Z1 o og1 am v hh g) := hD
  refine lv_istore (lv' := [(5, .int (nI (peC (xs (i + 1)) (xs (i + 2))))), (0, .ref bs), (1, .ref (a 34)), (2, .ref (am 0)), (3, .ref o), (4, .int (nI i))]) hx hb dL_law_1171 hl (by decide) rfl (fun ls hl => ?_)
  refine lv_aload_n hx hb dL_law_1173 rfl (lv_at hl 3 rfl) ?_
  refine lv_aload_n hx hb dL_law_1174 rfl (lv_at hl 1 rfl) ?_
  refine lv_iload hx hb dL_law_1175 (lv_at hl 5 rfl) ?_
  refine lv_iconst (v := nI 1) hx hb dL_law_1177 (by decide) ?_
  refine lv_iadd hx hb dL_law_1178 ?_
  refine asi (z := nI (i + 1)) (nI_add _ _) ?_
  refine va_sld hx hb hX0 hbl hbA hS (vp_in_nI (by omega) (by omega)) dL_law_1179 ?_
  refine asi (z := xs (i + 1)) (congrArg xs (nI_clamp (by omega))) ?_
  refine lv_aload_n hx hb dL_law_1180 rfl (lv_at hl 1 rfl) ?_
  refine lv_iload hx hb dL_law_1181 (lv_at hl 5 rfl) ?_
  refine lv_iconst (v := nI 2) hx hb dL_law_1183 (by decide) ?_
  refine lv_iadd hx hb dL_law_1184 ?_
  refine asi (z := nI (i + 2)) (nI_add _ _) ?_
  refine va_sld hx hb hX0 hbl hbA hS (vp_in_nI (by omega) (by omega)) dL_law_1185 ?_
  refine asi (z := xs (i + 2)) (congrArg xs (nI_clamp (by omega))) ?_
  refine aWi (As := [.int (xs (i + 1)), .int (xs (i + 2))]) (rest := []) (wr := (o, oC Γ og1) :: wXo Γ a b rf f1 z1 F1 Z1) (m_X9_personOf l Γ _ am v hh g σ sc ss nb bb hM (xs (i + 1)) (xs (i + 2))) S k_X9_personOf gL_law_X9_personOf rfl ⟨(Nat.le_of_ble_eq_true rfl), (Nat.le_of_ble_eq_true rfl)⟩ hK (gP_sw hP) (gD_sw hD) hS hA 0 (ci := 9) rfl rfl rfl rfl hl.1 (Nat.le_of_ble_eq_true rfl) rfl dL_law_1186 ⟨by show cells + 2 + 0 ≤ 625301; omega, by show slots + 12 + 0 ≤ 7220200; omega⟩ (fun r u H locs hr hP hD hS => ?_)
  obtain ⟨v1, hh1, g1⟩ := u
  have hP : gP Γ (wLw Γ a b rf f1 z1 F1 Z1 o og1 am v1 hh1 g1) H := gP_sw (w1 := wMd Γ am v1 hh1 g1) hP
  have hD : va_D (fun q : Nat => s.heap.size ≤ q) (wLw Γ a b rf f1 z1 F1 Z1 o og1 am v1 hh1 g1) := gD_sw (w1 := wMd Γ am v1 hh1 g1) hD
  obtain ⟨ht0, hm1, hm2⟩ := hr
  refine lv_istore (lv' := [(6, .int r), (5, .int (nI (peC (xs (i + 1)) (xs (i + 2))))), (0, .ref bs), (1, .ref (a 34)), (2, .ref (am 0)), (3, .ref o), (4, .int (nI i))]) hx hb dL_law_1189 hl (by decide) rfl (fun ls hl => ?_)
  refine lv_aload_n hx hb dL_law_1191 rfl (lv_at hl 4 rfl) ?_
  refine rRi (As := []) (rest := []) (wr := (o, oC Γ og1) :: wXo Γ a b rf f1 z1 F1 Z1) (m_X9_thrown l Γ am v1 hh1 g1) S k_X9_thrown gL_law_X9_thrown rfl ⟨(Nat.le_of_ble_eq_true rfl), (Nat.le_of_ble_eq_true rfl)⟩ hK (gP_sw hP) 0 (ci := 9) rfl rfl rfl rfl hl.1 (Nat.le_of_ble_eq_true rfl) rfl dL_law_1192 ⟨by show cells + 2 ≤ 625301; omega, by show slots + 12 ≤ 7220200; omega⟩ (fun t ht => ?_)
  subst ht
  refine asi (z := nI (peC (xs (i + 1)) (xs (i + 2)))) ht0 ?_
  refine lv_iload hx hb dL_law_1195 (lv_at hl 1 rfl) ?_
  refine lv_icmp_eq (tgt := 1202) hx hb dL_law_1197 (by decide) (fun _ => ?_) (fun c => absurd rfl c)
  refine lv_iload hx hb dL_law_1202 (lv_at hl 1 rfl) ?_
  have hcle : peC (xs (i + 1)) (xs (i + 2)) < 2 ^ 31 := by unfold peC; (repeat' split) <;> decide
  refine lv_if_ne (tgt := 1219) hx hb dL_law_1204 (by decide) (fun ck => ?_) (fun ck => ?_)
  · have hk : ¬ peC (xs (i + 1)) (xs (i + 2)) = 0 := fun h => ck (by rw [h]; rfl)
    refine lv_goto (tgt := 1710) hx hb dL_law_1219 (by decide) ?_
    refine W.widen (k := cells + 2) (n := slots + 12) (by omega) (by omega) ?_
    exact KK _ _ _ ⟨f1, z1, F1, Z1, og1, v1, hh1, g1, _, _, _, _, _, (hr2 hk), (hm2 hk).2, hP, hD, hS⟩ (lv_sub hl [2, 3, 4, 5, 6] rfl)
  · have hk : peC (xs (i + 1)) (xs (i + 2)) = 0 := (nI_eq (a := peC (xs (i + 1)) (xs (i + 2))) (b := 0) hcle (by decide)).mp ck
    obtain ⟨ho1, hX1⟩ := hr1 hk
    obtain ⟨hr6, hM1⟩ := hm1 hk
    subst hr6
    have hl : lv_has ls 9 [(6, .int (perN σ (xs (i + 1)).toNatClampNeg (xs (i + 2)).toNatClampNeg)), (5, .int (nI (peC (xs (i + 1)) (xs (i + 2))))), (0, .ref bs), (1, .ref (a 34)), (2, .ref (am 0)), (3, .ref o), (4, .int (nI i))] := hl
    refine lv_aload_n hx hb dL_law_1207 rfl (lv_at hl 5 rfl) ?_
    refine lv_iconst (v := nI 0) hx hb dL_law_1208 (by decide) ?_
    refine va_lald hx hb hK hP 0 2 rfl rfl (vp_in_nI (by omega) (by omega)) dL_law_1209 ?_
    refine asl (z := (perN σ (xs (i + 1)).toNatClampNeg (xs (i + 2)).toNatClampNeg).toInt64) ((congrArg og1 (nI_clamp (by omega))).trans ho1) ?_
    refine lv_iload hx hb dL_law_1210 (lv_at hl 0 rfl) ?_
    refine lv_i2l (v := (perN σ (xs (i + 1)).toNatClampNeg (xs (i + 2)).toNatClampNeg).toInt64) hx hb dL_law_1212 rfl ?_
    refine rLcmp hx hb dL_law_1213 ?_
    refine lv_if_eq (tgt := 1219) hx hb dL_law_1214 (by decide) (fun _ => ?_) (fun c => absurd rfl c)
    refine lv_goto (tgt := 1710) hx hb dL_law_1219 (by decide) ?_
    refine W.widen (k := cells + 2) (n := slots + 12) (by omega) (by omega) ?_
    exact KK _ _ _ ⟨f1, z1, F1, Z1, og1, v1, hh1, g1, _, _, _, _, _, hX1, hM1, hP, hD, hS⟩ (lv_sub hl [2, 3, 4, 5, 6] rfl)

set_option maxHeartbeats 4000000 in
set_option maxRecDepth 100000 in
theorem lw_s_veils {p : Program} {l : Launch} {e : Env} {s : State} {m : MethodId} {below : List Frame} {meth : Method} {c : Code} {bs L : Nat} {xs : Nat → Int32} {Q : State → Prop} (C0 : lw_At p s m meth c bs L xs) (hfl : l.stackTraces = false) (hL : L ≤ 3072) {Γ : Gm} (hK : gK Γ s) (hE : gE (fun q : Nat => s.heap.size ≤ q) s) {a : Nat → Nat} {b : Nat → Nat → Nat} {rf : Nat → Option Nat} (hrf : ∀ i, i < 6 → rf i = some (b i 0)) {am : Nat → Nat} {o i : Nat} (hi : i + 6 ≤ L) {cells slots : Nat} (hc : cells + 2 ≤ 625301) (hs : slots + 12 ≤ 7220200) {H : Heap} {locs : List Loc} (hI : SI Γ s a b rf am o H locs) {ls : Array Slot} (hl : lv_has ls 9 (LVs bs (a 34) (am 0) o i)) (KK : ∀ (H : Heap) (locs : List Loc) (ls : Array Slot), SI Γ s a b rf am o H locs → lv_has ls 9 (LVs bs (a 34) (am 0) o i) → W p l e room_1 s m #[Value.ref bs] below meth c H locs (cells + 2) (slots + 12) Q (F0 m 1710 ls [])) : W p l e room_1 s m #[Value.ref bs] below meth c H locs cells slots Q (F0 m 1222 ls []) := by
  obtain ⟨hx, hb, hrt, hml, hown, hts0, hX0, hbl, hlk, hgv⟩ := id C0
  have hts : ∀ w ∈ wsL_law, w.before #[Value.ref bs] s = true := fun w h => hts0 w (wsL_law_in w h)
  have S : CallFix p m c cL_law 9 s #[Value.ref bs] wsL_law RL := ⟨hx, hb, hml, hown, hts⟩
  have hA : ∀ q : Nat, s.heap.size ≤ q → (fun q : Nat => s.heap.size ≤ q) q := fun _ h => h
  have hbA : ¬ (fun q : Nat => s.heap.size ≤ q) bs := Nat.not_le.mpr hbl
  obtain ⟨f, z, F, Z, og, v, hh, g, σ, sc, ss, nb, bb, hX, hM, hP, hD, hS⟩ := hI
  have hl : lv_has ls 9 [(0, .ref bs), (1, .ref (a 34)), (2, .ref (am 0)), (3, .ref o), (4, .int (nI i))] := hl
  refine lv_aload_n hx hb dL_law_1222 rfl (lv_at hl 1 rfl) ?_
  refine lv_aload_n hx hb dL_law_1223 rfl (lv_at hl 0 rfl) ?_
  refine lv_iload hx hb dL_law_1224 (lv_at hl 4 rfl) ?_
  refine lv_iconst (v := nI 1) hx hb dL_law_1226 (by decide) ?_
  refine lv_iadd hx hb dL_law_1227 ?_
  refine asi (z := nI (i + 1)) (nI_add _ _) ?_
  refine va_sld hx hb hX0 hbl hbA hS (vp_in_nI (by omega) (by omega)) dL_law_1228 ?_
  refine asi (z := xs (i + 1)) (congrArg xs (nI_clamp (by omega))) ?_
  refine lv_aload_n hx hb dL_law_1229 rfl (lv_at hl 0 rfl) ?_
  refine lv_iload hx hb dL_law_1230 (lv_at hl 4 rfl) ?_
  refine lv_iconst (v := nI 2) hx hb dL_law_1232 (by decide) ?_
  refine lv_iadd hx hb dL_law_1233 ?_
  refine asi (z := nI (i + 2)) (nI_add _ _) ?_
  refine va_sld hx hb hX0 hbl hbA hS (vp_in_nI (by omega) (by omega)) dL_law_1234 ?_
  refine asi (z := xs (i + 2)) (congrArg xs (nI_clamp (by omega))) ?_
  refine lv_aload_n hx hb dL_law_1235 rfl (lv_at hl 3 rfl) ?_
  refine hCi (As := [.ref (a 34), .int (xs (i + 1)), .int (xs (i + 2)), .ref o]) (rest := []) (m_L_veils l hfl Γ _ a b rf hrf f z F Z σ sc ss nb bb hX o og (xs (i + 1)) (xs (i + 2))) hE S k_L_veils gL_law_L_veils ⟨(Nat.le_of_ble_eq_true rfl), (Nat.le_of_ble_eq_true rfl)⟩ hK hP hD hS hA rfl hl.1 (Nat.le_of_ble_eq_true rfl) rfl dL_law_1236 ⟨by show cells + 0 + 2 ≤ 625301; omega, by show slots + 0 + 12 ≤ 7220200; omega⟩ (fun r u H locs hr hP hD hS => ?_)
  obtain ⟨⟨f1, z1, F1, Z1⟩, og1⟩ := u
  obtain ⟨hr0, hr1, hr2⟩ := hr
  subst hr0
  have hP : gP Γ (wLw Γ a b rf f1 z1 F1 Z1 o og1 am v hh g) H := hP
  have hD : va_D (fun q : Nat => s.heap.size ≤ q) (wLw Γ a b rf f1 z1 F1 Z1 o og1 am v hh g) := hD
  refine lv_istore (lv' := [(5, .int (nI (veC σ (xs (i + 1)) (xs (i + 2))))), (0, .ref bs), (1, .ref (a 34)), (2, .ref (am 0)), (3, .ref o), (4, .int (nI i))]) hx hb dL_law_1239 hl (by decide) rfl (fun ls hl => ?_)
  refine lv_aload_n hx hb dL_law_1241 rfl (lv_at hl 3 rfl) ?_
  refine lv_aload_n hx hb dL_law_1242 rfl (lv_at hl 1 rfl) ?_
  refine lv_iload hx hb dL_law_1243 (lv_at hl 5 rfl) ?_
  refine lv_iconst (v := nI 1) hx hb dL_law_1245 (by decide) ?_
  refine lv_iadd hx hb dL_law_1246 ?_
  refine asi (z := nI (i + 1)) (nI_add _ _) ?_
  refine va_sld hx hb hX0 hbl hbA hS (vp_in_nI (by omega) (by omega)) dL_law_1247 ?_
  refine asi (z := xs (i + 1)) (congrArg xs (nI_clamp (by omega))) ?_
  refine lv_aload_n hx hb dL_law_1248 rfl (lv_at hl 1 rfl) ?_
  refine lv_iload hx hb dL_law_1249 (lv_at hl 5 rfl) ?_
  refine lv_iconst (v := nI 2) hx hb dL_law_1251 (by decide) ?_
  refine lv_iadd hx hb dL_law_1252 ?_
  refine asi (z := nI (i + 2)) (nI_add _ _) ?_
  refine va_sld hx hb hX0 hbl hbA hS (vp_in_nI (by omega) (by omega)) dL_law_1253 ?_
  refine asi (z := xs (i + 2)) (congrArg xs (nI_clamp (by omega))) ?_
  refine aWi (As := [.int (xs (i + 1)), .int (xs (i + 2))]) (rest := []) (wr := (o, oC Γ og1) :: wXo Γ a b rf f1 z1 F1 Z1) (m_X9_veils l Γ _ am v hh g σ sc ss nb bb hM (xs (i + 1)) (xs (i + 2))) S k_X9_veils gL_law_X9_veils rfl ⟨(Nat.le_of_ble_eq_true rfl), (Nat.le_of_ble_eq_true rfl)⟩ hK (gP_sw hP) (gD_sw hD) hS hA 0 (ci := 9) rfl rfl rfl rfl hl.1 (Nat.le_of_ble_eq_true rfl) rfl dL_law_1254 ⟨by show cells + 2 + 0 ≤ 625301; omega, by show slots + 12 + 0 ≤ 7220200; omega⟩ (fun r u H locs hr hP hD hS => ?_)
  obtain ⟨v1, hh1, g1⟩ := u
  have hP : gP Γ (wLw Γ a b rf f1 z1 F1 Z1 o og1 am v1 hh1 g1) H := gP_sw (w1 := wMd Γ am v1 hh1 g1) hP
  have hD : va_D (fun q : Nat => s.heap.size ≤ q) (wLw Γ a b rf f1 z1 F1 Z1 o og1 am v1 hh1 g1) := gD_sw (w1 := wMd Γ am v1 hh1 g1) hD
  obtain ⟨ht0, hm1, hm2⟩ := hr
  refine lv_istore (lv' := [(6, .int r), (5, .int (nI (veC σ (xs (i + 1)) (xs (i + 2))))), (0, .ref bs), (1, .ref (a 34)), (2, .ref (am 0)), (3, .ref o), (4, .int (nI i))]) hx hb dL_law_1257 hl (by decide) rfl (fun ls hl => ?_)
  refine lv_aload_n hx hb dL_law_1259 rfl (lv_at hl 4 rfl) ?_
  refine rRi (As := []) (rest := []) (wr := (o, oC Γ og1) :: wXo Γ a b rf f1 z1 F1 Z1) (m_X9_thrown l Γ am v1 hh1 g1) S k_X9_thrown gL_law_X9_thrown rfl ⟨(Nat.le_of_ble_eq_true rfl), (Nat.le_of_ble_eq_true rfl)⟩ hK (gP_sw hP) 0 (ci := 9) rfl rfl rfl rfl hl.1 (Nat.le_of_ble_eq_true rfl) rfl dL_law_1260 ⟨by show cells + 2 ≤ 625301; omega, by show slots + 12 ≤ 7220200; omega⟩ (fun t ht => ?_)
  subst ht
  refine asi (z := nI (veC σ (xs (i + 1)) (xs (i + 2)))) ht0 ?_
  refine lv_iload hx hb dL_law_1263 (lv_at hl 1 rfl) ?_
  refine lv_icmp_eq (tgt := 1270) hx hb dL_law_1265 (by decide) (fun _ => ?_) (fun c => absurd rfl c)
  refine lv_iload hx hb dL_law_1270 (lv_at hl 1 rfl) ?_
  have hcle : veC σ (xs (i + 1)) (xs (i + 2)) < 2 ^ 31 := by unfold veC; (repeat' split) <;> decide
  refine lv_if_ne (tgt := 1287) hx hb dL_law_1272 (by decide) (fun ck => ?_) (fun ck => ?_)
  · have hk : ¬ veC σ (xs (i + 1)) (xs (i + 2)) = 0 := fun h => ck (by rw [h]; rfl)
    refine lv_goto (tgt := 1710) hx hb dL_law_1287 (by decide) ?_
    refine W.widen (k := cells + 2) (n := slots + 12) (by omega) (by omega) ?_
    exact KK _ _ _ ⟨f1, z1, F1, Z1, og1, v1, hh1, g1, _, _, _, _, _, (hr2 hk), (hm2 hk).2, hP, hD, hS⟩ (lv_sub hl [2, 3, 4, 5, 6] rfl)
  · have hk : veC σ (xs (i + 1)) (xs (i + 2)) = 0 := (nI_eq (a := veC σ (xs (i + 1)) (xs (i + 2))) (b := 0) hcle (by decide)).mp ck
    obtain ⟨ho1, hX1⟩ := hr1 hk
    obtain ⟨hr6, hM1⟩ := hm1 hk
    subst hr6
    have hl : lv_has ls 9 [(6, .int (nI (vmk σ (xs (i + 1)).toNatClampNeg (xs (i + 2)).toNatClampNeg))), (5, .int (nI (veC σ (xs (i + 1)) (xs (i + 2))))), (0, .ref bs), (1, .ref (a 34)), (2, .ref (am 0)), (3, .ref o), (4, .int (nI i))] := hl
    refine lv_aload_n hx hb dL_law_1275 rfl (lv_at hl 5 rfl) ?_
    refine lv_iconst (v := nI 0) hx hb dL_law_1276 (by decide) ?_
    refine va_lald hx hb hK hP 0 2 rfl rfl (vp_in_nI (by omega) (by omega)) dL_law_1277 ?_
    refine asl (z := (nI (vmk σ (xs (i + 1)).toNatClampNeg (xs (i + 2)).toNatClampNeg)).toInt64) ((congrArg og1 (nI_clamp (by omega))).trans ho1) ?_
    refine lv_iload hx hb dL_law_1278 (lv_at hl 0 rfl) ?_
    refine lv_i2l (v := (nI (vmk σ (xs (i + 1)).toNatClampNeg (xs (i + 2)).toNatClampNeg)).toInt64) hx hb dL_law_1280 rfl ?_
    refine rLcmp hx hb dL_law_1281 ?_
    refine lv_if_eq (tgt := 1287) hx hb dL_law_1282 (by decide) (fun _ => ?_) (fun c => absurd rfl c)
    refine lv_goto (tgt := 1710) hx hb dL_law_1287 (by decide) ?_
    refine W.widen (k := cells + 2) (n := slots + 12) (by omega) (by omega) ?_
    exact KK _ _ _ ⟨f1, z1, F1, Z1, og1, v1, hh1, g1, _, _, _, _, _, hX1, hM1, hP, hD, hS⟩ (lv_sub hl [2, 3, 4, 5, 6] rfl)

set_option maxHeartbeats 4000000 in
set_option maxRecDepth 100000 in
theorem lw_s_remembered {p : Program} {l : Launch} {e : Env} {s : State} {m : MethodId} {below : List Frame} {meth : Method} {c : Code} {bs L : Nat} {xs : Nat → Int32} {Q : State → Prop} (C0 : lw_At p s m meth c bs L xs) (hfl : l.stackTraces = false) (hL : L ≤ 3072) {Γ : Gm} (hK : gK Γ s) (hE : gE (fun q : Nat => s.heap.size ≤ q) s) {a : Nat → Nat} {b : Nat → Nat → Nat} {rf : Nat → Option Nat} (hrf : ∀ i, i < 6 → rf i = some (b i 0)) {am : Nat → Nat} {o i : Nat} (hi : i + 6 ≤ L) {cells slots : Nat} (hc : cells + 2 ≤ 625301) (hs : slots + 12 ≤ 7220200) {H : Heap} {locs : List Loc} (hI : SI Γ s a b rf am o H locs) {ls : Array Slot} (hl : lv_has ls 9 (LVs bs (a 34) (am 0) o i)) (KK : ∀ (H : Heap) (locs : List Loc) (ls : Array Slot), SI Γ s a b rf am o H locs → lv_has ls 9 (LVs bs (a 34) (am 0) o i) → W p l e room_1 s m #[Value.ref bs] below meth c H locs (cells + 2) (slots + 12) Q (F0 m 1710 ls [])) : W p l e room_1 s m #[Value.ref bs] below meth c H locs cells slots Q (F0 m 1290 ls []) := by
  obtain ⟨hx, hb, hrt, hml, hown, hts0, hX0, hbl, hlk, hgv⟩ := id C0
  have hts : ∀ w ∈ wsL_law, w.before #[Value.ref bs] s = true := fun w h => hts0 w (wsL_law_in w h)
  have S : CallFix p m c cL_law 9 s #[Value.ref bs] wsL_law RL := ⟨hx, hb, hml, hown, hts⟩
  have hA : ∀ q : Nat, s.heap.size ≤ q → (fun q : Nat => s.heap.size ≤ q) q := fun _ h => h
  have hbA : ¬ (fun q : Nat => s.heap.size ≤ q) bs := Nat.not_le.mpr hbl
  obtain ⟨f, z, F, Z, og, v, hh, g, σ, sc, ss, nb, bb, hX, hM, hP, hD, hS⟩ := hI
  have hl : lv_has ls 9 [(0, .ref bs), (1, .ref (a 34)), (2, .ref (am 0)), (3, .ref o), (4, .int (nI i))] := hl
  refine lv_aload_n hx hb dL_law_1290 rfl (lv_at hl 1 rfl) ?_
  refine lv_aload_n hx hb dL_law_1291 rfl (lv_at hl 0 rfl) ?_
  refine lv_iload hx hb dL_law_1292 (lv_at hl 4 rfl) ?_
  refine lv_iconst (v := nI 1) hx hb dL_law_1294 (by decide) ?_
  refine lv_iadd hx hb dL_law_1295 ?_
  refine asi (z := nI (i + 1)) (nI_add _ _) ?_
  refine va_sld hx hb hX0 hbl hbA hS (vp_in_nI (by omega) (by omega)) dL_law_1296 ?_
  refine asi (z := xs (i + 1)) (congrArg xs (nI_clamp (by omega))) ?_
  refine lv_aload_n hx hb dL_law_1297 rfl (lv_at hl 0 rfl) ?_
  refine lv_iload hx hb dL_law_1298 (lv_at hl 4 rfl) ?_
  refine lv_iconst (v := nI 2) hx hb dL_law_1300 (by decide) ?_
  refine lv_iadd hx hb dL_law_1301 ?_
  refine asi (z := nI (i + 2)) (nI_add _ _) ?_
  refine va_sld hx hb hX0 hbl hbA hS (vp_in_nI (by omega) (by omega)) dL_law_1302 ?_
  refine asi (z := xs (i + 2)) (congrArg xs (nI_clamp (by omega))) ?_
  refine lv_aload_n hx hb dL_law_1303 rfl (lv_at hl 3 rfl) ?_
  refine hCi (As := [.ref (a 34), .int (xs (i + 1)), .int (xs (i + 2)), .ref o]) (rest := []) (m_L_remembered l hfl Γ _ a b rf hrf f z F Z σ sc ss nb bb hX o og (xs (i + 1)) (xs (i + 2))) hE S k_L_remembered gL_law_L_remembered ⟨(Nat.le_of_ble_eq_true rfl), (Nat.le_of_ble_eq_true rfl)⟩ hK hP hD hS hA rfl hl.1 (Nat.le_of_ble_eq_true rfl) rfl dL_law_1304 ⟨by show cells + 0 + 2 ≤ 625301; omega, by show slots + 0 + 12 ≤ 7220200; omega⟩ (fun r u H locs hr hP hD hS => ?_)
  obtain ⟨⟨f1, z1, F1, Z1⟩, og1⟩ := u
  obtain ⟨hr0, hr1, hr2⟩ := hr
  subst hr0
  have hP : gP Γ (wLw Γ a b rf f1 z1 F1 Z1 o og1 am v hh g) H := hP
  have hD : va_D (fun q : Nat => s.heap.size ≤ q) (wLw Γ a b rf f1 z1 F1 Z1 o og1 am v hh g) := hD
  refine lv_istore (lv' := [(5, .int (nI (reC (xs (i + 1)) (xs (i + 2))))), (0, .ref bs), (1, .ref (a 34)), (2, .ref (am 0)), (3, .ref o), (4, .int (nI i))]) hx hb dL_law_1307 hl (by decide) rfl (fun ls hl => ?_)
  refine lv_aload_n hx hb dL_law_1309 rfl (lv_at hl 3 rfl) ?_
  refine lv_aload_n hx hb dL_law_1310 rfl (lv_at hl 1 rfl) ?_
  refine lv_iload hx hb dL_law_1311 (lv_at hl 5 rfl) ?_
  refine lv_iconst (v := nI 1) hx hb dL_law_1313 (by decide) ?_
  refine lv_iadd hx hb dL_law_1314 ?_
  refine asi (z := nI (i + 1)) (nI_add _ _) ?_
  refine va_sld hx hb hX0 hbl hbA hS (vp_in_nI (by omega) (by omega)) dL_law_1315 ?_
  refine asi (z := xs (i + 1)) (congrArg xs (nI_clamp (by omega))) ?_
  refine lv_aload_n hx hb dL_law_1316 rfl (lv_at hl 1 rfl) ?_
  refine lv_iload hx hb dL_law_1317 (lv_at hl 5 rfl) ?_
  refine lv_iconst (v := nI 2) hx hb dL_law_1319 (by decide) ?_
  refine lv_iadd hx hb dL_law_1320 ?_
  refine asi (z := nI (i + 2)) (nI_add _ _) ?_
  refine va_sld hx hb hX0 hbl hbA hS (vp_in_nI (by omega) (by omega)) dL_law_1321 ?_
  refine asi (z := xs (i + 2)) (congrArg xs (nI_clamp (by omega))) ?_
  refine aWi (As := [.int (xs (i + 1)), .int (xs (i + 2))]) (rest := []) (wr := (o, oC Γ og1) :: wXo Γ a b rf f1 z1 F1 Z1) (m_X9_remembered l Γ _ am v hh g σ sc ss nb bb hM (xs (i + 1)) (xs (i + 2))) S k_X9_remembered gL_law_X9_remembered rfl ⟨(Nat.le_of_ble_eq_true rfl), (Nat.le_of_ble_eq_true rfl)⟩ hK (gP_sw hP) (gD_sw hD) hS hA 0 (ci := 9) rfl rfl rfl rfl hl.1 (Nat.le_of_ble_eq_true rfl) rfl dL_law_1322 ⟨by show cells + 2 + 0 ≤ 625301; omega, by show slots + 12 + 0 ≤ 7220200; omega⟩ (fun r u H locs hr hP hD hS => ?_)
  obtain ⟨v1, hh1, g1⟩ := u
  have hP : gP Γ (wLw Γ a b rf f1 z1 F1 Z1 o og1 am v1 hh1 g1) H := gP_sw (w1 := wMd Γ am v1 hh1 g1) hP
  have hD : va_D (fun q : Nat => s.heap.size ≤ q) (wLw Γ a b rf f1 z1 F1 Z1 o og1 am v1 hh1 g1) := gD_sw (w1 := wMd Γ am v1 hh1 g1) hD
  obtain ⟨ht0, hm1, hm2⟩ := hr
  refine lv_istore (lv' := [(6, .int r), (5, .int (nI (reC (xs (i + 1)) (xs (i + 2))))), (0, .ref bs), (1, .ref (a 34)), (2, .ref (am 0)), (3, .ref o), (4, .int (nI i))]) hx hb dL_law_1325 hl (by decide) rfl (fun ls hl => ?_)
  refine lv_aload_n hx hb dL_law_1327 rfl (lv_at hl 4 rfl) ?_
  refine rRi (As := []) (rest := []) (wr := (o, oC Γ og1) :: wXo Γ a b rf f1 z1 F1 Z1) (m_X9_thrown l Γ am v1 hh1 g1) S k_X9_thrown gL_law_X9_thrown rfl ⟨(Nat.le_of_ble_eq_true rfl), (Nat.le_of_ble_eq_true rfl)⟩ hK (gP_sw hP) 0 (ci := 9) rfl rfl rfl rfl hl.1 (Nat.le_of_ble_eq_true rfl) rfl dL_law_1328 ⟨by show cells + 2 ≤ 625301; omega, by show slots + 12 ≤ 7220200; omega⟩ (fun t ht => ?_)
  subst ht
  refine asi (z := nI (reC (xs (i + 1)) (xs (i + 2)))) ht0 ?_
  refine lv_iload hx hb dL_law_1331 (lv_at hl 1 rfl) ?_
  refine lv_icmp_eq (tgt := 1338) hx hb dL_law_1333 (by decide) (fun _ => ?_) (fun c => absurd rfl c)
  refine lv_iload hx hb dL_law_1338 (lv_at hl 1 rfl) ?_
  have hcle : reC (xs (i + 1)) (xs (i + 2)) < 2 ^ 31 := by unfold reC; (repeat' split) <;> decide
  refine lv_if_ne (tgt := 1355) hx hb dL_law_1340 (by decide) (fun ck => ?_) (fun ck => ?_)
  · have hk : ¬ reC (xs (i + 1)) (xs (i + 2)) = 0 := fun h => ck (by rw [h]; rfl)
    refine lv_goto (tgt := 1710) hx hb dL_law_1355 (by decide) ?_
    refine W.widen (k := cells + 2) (n := slots + 12) (by omega) (by omega) ?_
    exact KK _ _ _ ⟨f1, z1, F1, Z1, og1, v1, hh1, g1, _, _, _, _, _, (hr2 hk), (hm2 hk).2, hP, hD, hS⟩ (lv_sub hl [2, 3, 4, 5, 6] rfl)
  · have hk : reC (xs (i + 1)) (xs (i + 2)) = 0 := (nI_eq (a := reC (xs (i + 1)) (xs (i + 2))) (b := 0) hcle (by decide)).mp ck
    obtain ⟨ho1, hX1⟩ := hr1 hk
    obtain ⟨hr6, hM1⟩ := hm1 hk
    subst hr6
    have hl : lv_has ls 9 [(6, .int (remV σ (xs (i + 1)).toNatClampNeg (xs (i + 2)).toNatClampNeg)), (5, .int (nI (reC (xs (i + 1)) (xs (i + 2))))), (0, .ref bs), (1, .ref (a 34)), (2, .ref (am 0)), (3, .ref o), (4, .int (nI i))] := hl
    refine lv_aload_n hx hb dL_law_1343 rfl (lv_at hl 5 rfl) ?_
    refine lv_iconst (v := nI 0) hx hb dL_law_1344 (by decide) ?_
    refine va_lald hx hb hK hP 0 2 rfl rfl (vp_in_nI (by omega) (by omega)) dL_law_1345 ?_
    refine asl (z := (remV σ (xs (i + 1)).toNatClampNeg (xs (i + 2)).toNatClampNeg).toInt64) ((congrArg og1 (nI_clamp (by omega))).trans ho1) ?_
    refine lv_iload hx hb dL_law_1346 (lv_at hl 0 rfl) ?_
    refine lv_i2l (v := (remV σ (xs (i + 1)).toNatClampNeg (xs (i + 2)).toNatClampNeg).toInt64) hx hb dL_law_1348 rfl ?_
    refine rLcmp hx hb dL_law_1349 ?_
    refine lv_if_eq (tgt := 1355) hx hb dL_law_1350 (by decide) (fun _ => ?_) (fun c => absurd rfl c)
    refine lv_goto (tgt := 1710) hx hb dL_law_1355 (by decide) ?_
    refine W.widen (k := cells + 2) (n := slots + 12) (by omega) (by omega) ?_
    exact KK _ _ _ ⟨f1, z1, F1, Z1, og1, v1, hh1, g1, _, _, _, _, _, hX1, hM1, hP, hD, hS⟩ (lv_sub hl [2, 3, 4, 5, 6] rfl)

set_option maxHeartbeats 4000000 in
set_option maxRecDepth 100000 in
theorem lw_s_count {p : Program} {l : Launch} {e : Env} {s : State} {m : MethodId} {below : List Frame} {meth : Method} {c : Code} {bs L : Nat} {xs : Nat → Int32} {Q : State → Prop} (C0 : lw_At p s m meth c bs L xs) (hfl : l.stackTraces = false) (hL : L ≤ 3072) {Γ : Gm} (hK : gK Γ s) (hE : gE (fun q : Nat => s.heap.size ≤ q) s) {a : Nat → Nat} {b : Nat → Nat → Nat} {rf : Nat → Option Nat} (hrf : ∀ i, i < 6 → rf i = some (b i 0)) {am : Nat → Nat} {o i : Nat} (hi : i + 6 ≤ L) {cells slots : Nat} (hc : cells + 2 ≤ 625301) (hs : slots + 12 ≤ 7220200) {H : Heap} {locs : List Loc} (hI : SI Γ s a b rf am o H locs) {ls : Array Slot} (hl : lv_has ls 9 (LVs bs (a 34) (am 0) o i)) (KK : ∀ (H : Heap) (locs : List Loc) (ls : Array Slot), SI Γ s a b rf am o H locs → lv_has ls 9 (LVs bs (a 34) (am 0) o i) → W p l e room_1 s m #[Value.ref bs] below meth c H locs (cells + 2) (slots + 12) Q (F0 m 1710 ls [])) : W p l e room_1 s m #[Value.ref bs] below meth c H locs cells slots Q (F0 m 1358 ls []) := by
  obtain ⟨hx, hb, hrt, hml, hown, hts0, hX0, hbl, hlk, hgv⟩ := id C0
  have hts : ∀ w ∈ wsL_law, w.before #[Value.ref bs] s = true := fun w h => hts0 w (wsL_law_in w h)
  have S : CallFix p m c cL_law 9 s #[Value.ref bs] wsL_law RL := ⟨hx, hb, hml, hown, hts⟩
  have hA : ∀ q : Nat, s.heap.size ≤ q → (fun q : Nat => s.heap.size ≤ q) q := fun _ h => h
  have hbA : ¬ (fun q : Nat => s.heap.size ≤ q) bs := Nat.not_le.mpr hbl
  obtain ⟨f, z, F, Z, og, v, hh, g, σ, sc, ss, nb, bb, hX, hM, hP, hD, hS⟩ := hI
  have hl : lv_has ls 9 [(0, .ref bs), (1, .ref (a 34)), (2, .ref (am 0)), (3, .ref o), (4, .int (nI i))] := hl
  refine lv_aload_n hx hb dL_law_1358 rfl (lv_at hl 1 rfl) ?_
  refine lv_aload_n hx hb dL_law_1359 rfl (lv_at hl 0 rfl) ?_
  refine lv_iload hx hb dL_law_1360 (lv_at hl 4 rfl) ?_
  refine lv_iconst (v := nI 1) hx hb dL_law_1362 (by decide) ?_
  refine lv_iadd hx hb dL_law_1363 ?_
  refine asi (z := nI (i + 1)) (nI_add _ _) ?_
  refine va_sld hx hb hX0 hbl hbA hS (vp_in_nI (by omega) (by omega)) dL_law_1364 ?_
  refine asi (z := xs (i + 1)) (congrArg xs (nI_clamp (by omega))) ?_
  refine lv_aload_n hx hb dL_law_1365 rfl (lv_at hl 3 rfl) ?_
  refine hCi (As := [.ref (a 34), .int (xs (i + 1)), .ref o]) (rest := []) (m_L_count l hfl Γ _ a b rf hrf f z F Z σ sc ss nb bb hX o og (xs (i + 1))) hE S k_L_count gL_law_L_count ⟨(Nat.le_of_ble_eq_true rfl), (Nat.le_of_ble_eq_true rfl)⟩ hK hP hD hS hA rfl hl.1 (Nat.le_of_ble_eq_true rfl) rfl dL_law_1366 ⟨by show cells + 0 + 1 ≤ 625301; omega, by show slots + 0 + 6 ≤ 7220200; omega⟩ (fun r u H locs hr hP hD hS => ?_)
  obtain ⟨⟨f1, z1, F1, Z1⟩, og1⟩ := u
  obtain ⟨hr0, hr1, hr2⟩ := hr
  subst hr0
  have hP : gP Γ (wLw Γ a b rf f1 z1 F1 Z1 o og1 am v hh g) H := hP
  have hD : va_D (fun q : Nat => s.heap.size ≤ q) (wLw Γ a b rf f1 z1 F1 Z1 o og1 am v hh g) := hD
  refine lv_istore (lv' := [(5, .int (nI (coC (xs (i + 1))))), (0, .ref bs), (1, .ref (a 34)), (2, .ref (am 0)), (3, .ref o), (4, .int (nI i))]) hx hb dL_law_1369 hl (by decide) rfl (fun ls hl => ?_)
  refine lv_aload_n hx hb dL_law_1371 rfl (lv_at hl 3 rfl) ?_
  refine lv_aload_n hx hb dL_law_1372 rfl (lv_at hl 1 rfl) ?_
  refine lv_iload hx hb dL_law_1373 (lv_at hl 5 rfl) ?_
  refine lv_iconst (v := nI 1) hx hb dL_law_1375 (by decide) ?_
  refine lv_iadd hx hb dL_law_1376 ?_
  refine asi (z := nI (i + 1)) (nI_add _ _) ?_
  refine va_sld hx hb hX0 hbl hbA hS (vp_in_nI (by omega) (by omega)) dL_law_1377 ?_
  refine asi (z := xs (i + 1)) (congrArg xs (nI_clamp (by omega))) ?_
  refine aWi (As := [.int (xs (i + 1))]) (rest := []) (wr := (o, oC Γ og1) :: wXo Γ a b rf f1 z1 F1 Z1) (m_X9_count l Γ _ am v hh g σ sc ss nb bb hM (xs (i + 1))) S k_X9_count gL_law_X9_count rfl ⟨(Nat.le_of_ble_eq_true rfl), (Nat.le_of_ble_eq_true rfl)⟩ hK (gP_sw hP) (gD_sw hD) hS hA 0 (ci := 9) rfl rfl rfl rfl hl.1 (Nat.le_of_ble_eq_true rfl) rfl dL_law_1378 ⟨by show cells + 1 + 0 ≤ 625301; omega, by show slots + 6 + 0 ≤ 7220200; omega⟩ (fun r u H locs hr hP hD hS => ?_)
  obtain ⟨v1, hh1, g1⟩ := u
  have hP : gP Γ (wLw Γ a b rf f1 z1 F1 Z1 o og1 am v1 hh1 g1) H := gP_sw (w1 := wMd Γ am v1 hh1 g1) hP
  have hD : va_D (fun q : Nat => s.heap.size ≤ q) (wLw Γ a b rf f1 z1 F1 Z1 o og1 am v1 hh1 g1) := gD_sw (w1 := wMd Γ am v1 hh1 g1) hD
  obtain ⟨ht0, hm1, hm2⟩ := hr
  refine lv_istore (lv' := [(6, .int r), (5, .int (nI (coC (xs (i + 1))))), (0, .ref bs), (1, .ref (a 34)), (2, .ref (am 0)), (3, .ref o), (4, .int (nI i))]) hx hb dL_law_1381 hl (by decide) rfl (fun ls hl => ?_)
  refine lv_aload_n hx hb dL_law_1383 rfl (lv_at hl 4 rfl) ?_
  refine rRi (As := []) (rest := []) (wr := (o, oC Γ og1) :: wXo Γ a b rf f1 z1 F1 Z1) (m_X9_thrown l Γ am v1 hh1 g1) S k_X9_thrown gL_law_X9_thrown rfl ⟨(Nat.le_of_ble_eq_true rfl), (Nat.le_of_ble_eq_true rfl)⟩ hK (gP_sw hP) 0 (ci := 9) rfl rfl rfl rfl hl.1 (Nat.le_of_ble_eq_true rfl) rfl dL_law_1384 ⟨by show cells + 1 ≤ 625301; omega, by show slots + 6 ≤ 7220200; omega⟩ (fun t ht => ?_)
  subst ht
  refine asi (z := nI (coC (xs (i + 1)))) ht0 ?_
  refine lv_iload hx hb dL_law_1387 (lv_at hl 1 rfl) ?_
  refine lv_icmp_eq (tgt := 1394) hx hb dL_law_1389 (by decide) (fun _ => ?_) (fun c => absurd rfl c)
  refine lv_iload hx hb dL_law_1394 (lv_at hl 1 rfl) ?_
  have hcle : coC (xs (i + 1)) < 2 ^ 31 := by unfold coC; (repeat' split) <;> decide
  refine lv_if_ne (tgt := 1411) hx hb dL_law_1396 (by decide) (fun ck => ?_) (fun ck => ?_)
  · have hk : ¬ coC (xs (i + 1)) = 0 := fun h => ck (by rw [h]; rfl)
    refine lv_goto (tgt := 1710) hx hb dL_law_1411 (by decide) ?_
    refine W.widen (k := cells + 2) (n := slots + 12) (by omega) (by omega) ?_
    exact KK _ _ _ ⟨f1, z1, F1, Z1, og1, v1, hh1, g1, _, _, _, _, _, (hr2 hk), (hm2 hk).2, hP, hD, hS⟩ (lv_sub hl [2, 3, 4, 5, 6] rfl)
  · have hk : coC (xs (i + 1)) = 0 := (nI_eq (a := coC (xs (i + 1))) (b := 0) hcle (by decide)).mp ck
    obtain ⟨ho1, hX1⟩ := hr1 hk
    obtain ⟨hr6, hM1⟩ := hm1 hk
    subst hr6
    have hl : lv_has ls 9 [(6, .int (cntQ σ (nI sc) (xs (i + 1)).toNatClampNeg)), (5, .int (nI (coC (xs (i + 1))))), (0, .ref bs), (1, .ref (a 34)), (2, .ref (am 0)), (3, .ref o), (4, .int (nI i))] := hl
    refine lv_aload_n hx hb dL_law_1399 rfl (lv_at hl 5 rfl) ?_
    refine lv_iconst (v := nI 0) hx hb dL_law_1400 (by decide) ?_
    refine va_lald hx hb hK hP 0 2 rfl rfl (vp_in_nI (by omega) (by omega)) dL_law_1401 ?_
    refine asl (z := (cntQ σ (nI sc) (xs (i + 1)).toNatClampNeg).toInt64) ((congrArg og1 (nI_clamp (by omega))).trans ho1) ?_
    refine lv_iload hx hb dL_law_1402 (lv_at hl 0 rfl) ?_
    refine lv_i2l (v := (cntQ σ (nI sc) (xs (i + 1)).toNatClampNeg).toInt64) hx hb dL_law_1404 rfl ?_
    refine rLcmp hx hb dL_law_1405 ?_
    refine lv_if_eq (tgt := 1411) hx hb dL_law_1406 (by decide) (fun _ => ?_) (fun c => absurd rfl c)
    refine lv_goto (tgt := 1710) hx hb dL_law_1411 (by decide) ?_
    refine W.widen (k := cells + 2) (n := slots + 12) (by omega) (by omega) ?_
    exact KK _ _ _ ⟨f1, z1, F1, Z1, og1, v1, hh1, g1, _, _, _, _, _, hX1, hM1, hP, hD, hS⟩ (lv_sub hl [2, 3, 4, 5, 6] rfl)

set_option maxHeartbeats 4000000 in
set_option maxRecDepth 100000 in
theorem lw_s_ifAsked {p : Program} {l : Launch} {e : Env} {s : State} {m : MethodId} {below : List Frame} {meth : Method} {c : Code} {bs L : Nat} {xs : Nat → Int32} {Q : State → Prop} (C0 : lw_At p s m meth c bs L xs) (hfl : l.stackTraces = false) (hL : L ≤ 3072) {Γ : Gm} (hK : gK Γ s) (hE : gE (fun q : Nat => s.heap.size ≤ q) s) {a : Nat → Nat} {b : Nat → Nat → Nat} {rf : Nat → Option Nat} (hrf : ∀ i, i < 6 → rf i = some (b i 0)) {am : Nat → Nat} {o i : Nat} (hi : i + 6 ≤ L) {cells slots : Nat} (hc : cells + 2 ≤ 625301) (hs : slots + 12 ≤ 7220200) {H : Heap} {locs : List Loc} (hI : SI Γ s a b rf am o H locs) {ls : Array Slot} (hl : lv_has ls 9 (LVs bs (a 34) (am 0) o i)) (KK : ∀ (H : Heap) (locs : List Loc) (ls : Array Slot), SI Γ s a b rf am o H locs → lv_has ls 9 (LVs bs (a 34) (am 0) o i) → W p l e room_1 s m #[Value.ref bs] below meth c H locs (cells + 2) (slots + 12) Q (F0 m 1710 ls [])) : W p l e room_1 s m #[Value.ref bs] below meth c H locs cells slots Q (F0 m 1414 ls []) := by
  obtain ⟨hx, hb, hrt, hml, hown, hts0, hX0, hbl, hlk, hgv⟩ := id C0
  have hts : ∀ w ∈ wsL_law, w.before #[Value.ref bs] s = true := fun w h => hts0 w (wsL_law_in w h)
  have S : CallFix p m c cL_law 9 s #[Value.ref bs] wsL_law RL := ⟨hx, hb, hml, hown, hts⟩
  have hA : ∀ q : Nat, s.heap.size ≤ q → (fun q : Nat => s.heap.size ≤ q) q := fun _ h => h
  have hbA : ¬ (fun q : Nat => s.heap.size ≤ q) bs := Nat.not_le.mpr hbl
  obtain ⟨f, z, F, Z, og, v, hh, g, σ, sc, ss, nb, bb, hX, hM, hP, hD, hS⟩ := hI
  have hl : lv_has ls 9 [(0, .ref bs), (1, .ref (a 34)), (2, .ref (am 0)), (3, .ref o), (4, .int (nI i))] := hl
  refine lv_aload_n hx hb dL_law_1414 rfl (lv_at hl 1 rfl) ?_
  refine lv_aload_n hx hb dL_law_1415 rfl (lv_at hl 0 rfl) ?_
  refine lv_iload hx hb dL_law_1416 (lv_at hl 4 rfl) ?_
  refine lv_iconst (v := nI 1) hx hb dL_law_1418 (by decide) ?_
  refine lv_iadd hx hb dL_law_1419 ?_
  refine asi (z := nI (i + 1)) (nI_add _ _) ?_
  refine va_sld hx hb hX0 hbl hbA hS (vp_in_nI (by omega) (by omega)) dL_law_1420 ?_
  refine asi (z := xs (i + 1)) (congrArg xs (nI_clamp (by omega))) ?_
  refine lv_aload_n hx hb dL_law_1421 rfl (lv_at hl 0 rfl) ?_
  refine lv_iload hx hb dL_law_1422 (lv_at hl 4 rfl) ?_
  refine lv_iconst (v := nI 2) hx hb dL_law_1424 (by decide) ?_
  refine lv_iadd hx hb dL_law_1425 ?_
  refine asi (z := nI (i + 2)) (nI_add _ _) ?_
  refine va_sld hx hb hX0 hbl hbA hS (vp_in_nI (by omega) (by omega)) dL_law_1426 ?_
  refine asi (z := xs (i + 2)) (congrArg xs (nI_clamp (by omega))) ?_
  refine lv_aload_n hx hb dL_law_1427 rfl (lv_at hl 0 rfl) ?_
  refine lv_iload hx hb dL_law_1428 (lv_at hl 4 rfl) ?_
  refine lv_iconst (v := nI 3) hx hb dL_law_1430 (by decide) ?_
  refine lv_iadd hx hb dL_law_1431 ?_
  refine asi (z := nI (i + 3)) (nI_add _ _) ?_
  refine va_sld hx hb hX0 hbl hbA hS (vp_in_nI (by omega) (by omega)) dL_law_1432 ?_
  refine asi (z := xs (i + 3)) (congrArg xs (nI_clamp (by omega))) ?_
  refine lv_aload_n hx hb dL_law_1433 rfl (lv_at hl 0 rfl) ?_
  refine lv_iload hx hb dL_law_1434 (lv_at hl 4 rfl) ?_
  refine lv_iconst (v := nI 4) hx hb dL_law_1436 (by decide) ?_
  refine lv_iadd hx hb dL_law_1437 ?_
  refine asi (z := nI (i + 4)) (nI_add _ _) ?_
  refine va_sld hx hb hX0 hbl hbA hS (vp_in_nI (by omega) (by omega)) dL_law_1438 ?_
  refine asi (z := xs (i + 4)) (congrArg xs (nI_clamp (by omega))) ?_
  refine lv_aload_n hx hb dL_law_1439 rfl (lv_at hl 0 rfl) ?_
  refine lv_iload hx hb dL_law_1440 (lv_at hl 4 rfl) ?_
  refine lv_iconst (v := nI 5) hx hb dL_law_1442 (by decide) ?_
  refine lv_iadd hx hb dL_law_1443 ?_
  refine asi (z := nI (i + 5)) (nI_add _ _) ?_
  refine va_sld hx hb hX0 hbl hbA hS (vp_in_nI (by omega) (by omega)) dL_law_1444 ?_
  refine asi (z := xs (i + 5)) (congrArg xs (nI_clamp (by omega))) ?_
  refine lv_aload_n hx hb dL_law_1445 rfl (lv_at hl 3 rfl) ?_
  refine hCi (As := [.ref (a 34), .int (xs (i + 1)), .int (xs (i + 2)), .int (xs (i + 3)), .int (xs (i + 4)), .int (xs (i + 5)), .ref o]) (rest := []) (m_L_ifAsked l hfl Γ _ a b rf hrf f z F Z σ sc ss nb bb hX o og (xs (i + 1)) (xs (i + 2)) (xs (i + 3)) (xs (i + 4)) (xs (i + 5))) hE S k_L_ifAsked gL_law_L_ifAsked ⟨(Nat.le_of_ble_eq_true rfl), (Nat.le_of_ble_eq_true rfl)⟩ hK hP hD hS hA rfl hl.1 (Nat.le_of_ble_eq_true rfl) rfl dL_law_1446 ⟨by show cells + 0 + 2 ≤ 625301; omega, by show slots + 0 + 12 ≤ 7220200; omega⟩ (fun r u H locs hr hP hD hS => ?_)
  obtain ⟨⟨f1, z1, F1, Z1⟩, og1⟩ := u
  obtain ⟨hr0, hr1, hr2⟩ := hr
  subst hr0
  have hP : gP Γ (wLw Γ a b rf f1 z1 F1 Z1 o og1 am v hh g) H := hP
  have hD : va_D (fun q : Nat => s.heap.size ≤ q) (wLw Γ a b rf f1 z1 F1 Z1 o og1 am v hh g) := hD
  refine lv_istore (lv' := [(5, .int (nI (ifC (xs (i + 1)) (xs (i + 2)) (xs (i + 3)) (xs (i + 4)) (xs (i + 5))))), (0, .ref bs), (1, .ref (a 34)), (2, .ref (am 0)), (3, .ref o), (4, .int (nI i))]) hx hb dL_law_1449 hl (by decide) rfl (fun ls hl => ?_)
  refine lv_aload_n hx hb dL_law_1451 rfl (lv_at hl 3 rfl) ?_
  refine lv_aload_n hx hb dL_law_1452 rfl (lv_at hl 1 rfl) ?_
  refine lv_iload hx hb dL_law_1453 (lv_at hl 5 rfl) ?_
  refine lv_iconst (v := nI 1) hx hb dL_law_1455 (by decide) ?_
  refine lv_iadd hx hb dL_law_1456 ?_
  refine asi (z := nI (i + 1)) (nI_add _ _) ?_
  refine va_sld hx hb hX0 hbl hbA hS (vp_in_nI (by omega) (by omega)) dL_law_1457 ?_
  refine asi (z := xs (i + 1)) (congrArg xs (nI_clamp (by omega))) ?_
  refine lv_aload_n hx hb dL_law_1458 rfl (lv_at hl 1 rfl) ?_
  refine lv_iload hx hb dL_law_1459 (lv_at hl 5 rfl) ?_
  refine lv_iconst (v := nI 2) hx hb dL_law_1461 (by decide) ?_
  refine lv_iadd hx hb dL_law_1462 ?_
  refine asi (z := nI (i + 2)) (nI_add _ _) ?_
  refine va_sld hx hb hX0 hbl hbA hS (vp_in_nI (by omega) (by omega)) dL_law_1463 ?_
  refine asi (z := xs (i + 2)) (congrArg xs (nI_clamp (by omega))) ?_
  refine lv_aload_n hx hb dL_law_1464 rfl (lv_at hl 1 rfl) ?_
  refine lv_iload hx hb dL_law_1465 (lv_at hl 5 rfl) ?_
  refine lv_iconst (v := nI 3) hx hb dL_law_1467 (by decide) ?_
  refine lv_iadd hx hb dL_law_1468 ?_
  refine asi (z := nI (i + 3)) (nI_add _ _) ?_
  refine va_sld hx hb hX0 hbl hbA hS (vp_in_nI (by omega) (by omega)) dL_law_1469 ?_
  refine asi (z := xs (i + 3)) (congrArg xs (nI_clamp (by omega))) ?_
  refine lv_aload_n hx hb dL_law_1470 rfl (lv_at hl 1 rfl) ?_
  refine lv_iload hx hb dL_law_1471 (lv_at hl 5 rfl) ?_
  refine lv_iconst (v := nI 4) hx hb dL_law_1473 (by decide) ?_
  refine lv_iadd hx hb dL_law_1474 ?_
  refine asi (z := nI (i + 4)) (nI_add _ _) ?_
  refine va_sld hx hb hX0 hbl hbA hS (vp_in_nI (by omega) (by omega)) dL_law_1475 ?_
  refine asi (z := xs (i + 4)) (congrArg xs (nI_clamp (by omega))) ?_
  refine lv_aload_n hx hb dL_law_1476 rfl (lv_at hl 1 rfl) ?_
  refine lv_iload hx hb dL_law_1477 (lv_at hl 5 rfl) ?_
  refine lv_iconst (v := nI 5) hx hb dL_law_1479 (by decide) ?_
  refine lv_iadd hx hb dL_law_1480 ?_
  refine asi (z := nI (i + 5)) (nI_add _ _) ?_
  refine va_sld hx hb hX0 hbl hbA hS (vp_in_nI (by omega) (by omega)) dL_law_1481 ?_
  refine asi (z := xs (i + 5)) (congrArg xs (nI_clamp (by omega))) ?_
  refine aWi (As := [.int (xs (i + 1)), .int (xs (i + 2)), .int (xs (i + 3)), .int (xs (i + 4)), .int (xs (i + 5))]) (rest := []) (wr := (o, oC Γ og1) :: wXo Γ a b rf f1 z1 F1 Z1) (m_X9_ifAsked l Γ _ am v hh g σ sc ss nb bb hM (xs (i + 1)) (xs (i + 2)) (xs (i + 3)) (xs (i + 4)) (xs (i + 5))) S k_X9_ifAsked gL_law_X9_ifAsked rfl ⟨(Nat.le_of_ble_eq_true rfl), (Nat.le_of_ble_eq_true rfl)⟩ hK (gP_sw hP) (gD_sw hD) hS hA 0 (ci := 9) rfl rfl rfl rfl hl.1 (Nat.le_of_ble_eq_true rfl) rfl dL_law_1482 ⟨by show cells + 2 + 0 ≤ 625301; omega, by show slots + 12 + 0 ≤ 7220200; omega⟩ (fun r u H locs hr hP hD hS => ?_)
  obtain ⟨v1, hh1, g1⟩ := u
  have hP : gP Γ (wLw Γ a b rf f1 z1 F1 Z1 o og1 am v1 hh1 g1) H := gP_sw (w1 := wMd Γ am v1 hh1 g1) hP
  have hD : va_D (fun q : Nat => s.heap.size ≤ q) (wLw Γ a b rf f1 z1 F1 Z1 o og1 am v1 hh1 g1) := gD_sw (w1 := wMd Γ am v1 hh1 g1) hD
  obtain ⟨ht0, hm1, hm2⟩ := hr
  refine lv_istore (lv' := [(6, .int r), (5, .int (nI (ifC (xs (i + 1)) (xs (i + 2)) (xs (i + 3)) (xs (i + 4)) (xs (i + 5))))), (0, .ref bs), (1, .ref (a 34)), (2, .ref (am 0)), (3, .ref o), (4, .int (nI i))]) hx hb dL_law_1485 hl (by decide) rfl (fun ls hl => ?_)
  refine lv_aload_n hx hb dL_law_1487 rfl (lv_at hl 4 rfl) ?_
  refine rRi (As := []) (rest := []) (wr := (o, oC Γ og1) :: wXo Γ a b rf f1 z1 F1 Z1) (m_X9_thrown l Γ am v1 hh1 g1) S k_X9_thrown gL_law_X9_thrown rfl ⟨(Nat.le_of_ble_eq_true rfl), (Nat.le_of_ble_eq_true rfl)⟩ hK (gP_sw hP) 0 (ci := 9) rfl rfl rfl rfl hl.1 (Nat.le_of_ble_eq_true rfl) rfl dL_law_1488 ⟨by show cells + 2 ≤ 625301; omega, by show slots + 12 ≤ 7220200; omega⟩ (fun t ht => ?_)
  subst ht
  refine asi (z := nI (ifC (xs (i + 1)) (xs (i + 2)) (xs (i + 3)) (xs (i + 4)) (xs (i + 5)))) ht0 ?_
  refine lv_iload hx hb dL_law_1491 (lv_at hl 1 rfl) ?_
  refine lv_icmp_eq (tgt := 1498) hx hb dL_law_1493 (by decide) (fun _ => ?_) (fun c => absurd rfl c)
  refine lv_iload hx hb dL_law_1498 (lv_at hl 1 rfl) ?_
  have hcle : ifC (xs (i + 1)) (xs (i + 2)) (xs (i + 3)) (xs (i + 4)) (xs (i + 5)) < 2 ^ 31 := by unfold ifC; split; (· split <;> decide); (· exact qCode_le _ _ _ _)
  refine lv_if_ne (tgt := 1515) hx hb dL_law_1500 (by decide) (fun ck => ?_) (fun ck => ?_)
  · have hk : ¬ ifC (xs (i + 1)) (xs (i + 2)) (xs (i + 3)) (xs (i + 4)) (xs (i + 5)) = 0 := fun h => ck (by rw [h]; rfl)
    refine lv_goto (tgt := 1710) hx hb dL_law_1515 (by decide) ?_
    refine W.widen (k := cells + 2) (n := slots + 12) (by omega) (by omega) ?_
    exact KK _ _ _ ⟨f1, z1, F1, Z1, og1, v1, hh1, g1, _, _, _, _, _, (hr2 hk), (hm2 hk).2, hP, hD, hS⟩ (lv_sub hl [2, 3, 4, 5, 6] rfl)
  · have hk : ifC (xs (i + 1)) (xs (i + 2)) (xs (i + 3)) (xs (i + 4)) (xs (i + 5)) = 0 := (nI_eq (a := ifC (xs (i + 1)) (xs (i + 2)) (xs (i + 3)) (xs (i + 4)) (xs (i + 5))) (b := 0) hcle (by decide)).mp ck
    obtain ⟨ho1, hX1⟩ := hr1 hk
    obtain ⟨hr6, hM1⟩ := hm1 hk
    subst hr6
    have hl : lv_has ls 9 [(6, .int (wouQ σ (xs (i + 1)).toNatClampNeg (xs (i + 2)) (xs (i + 3)).toNatClampNeg (xs (i + 4)).toNatClampNeg (xs (i + 5)).toNatClampNeg)), (5, .int (nI (ifC (xs (i + 1)) (xs (i + 2)) (xs (i + 3)) (xs (i + 4)) (xs (i + 5))))), (0, .ref bs), (1, .ref (a 34)), (2, .ref (am 0)), (3, .ref o), (4, .int (nI i))] := hl
    refine lv_aload_n hx hb dL_law_1503 rfl (lv_at hl 5 rfl) ?_
    refine lv_iconst (v := nI 0) hx hb dL_law_1504 (by decide) ?_
    refine va_lald hx hb hK hP 0 2 rfl rfl (vp_in_nI (by omega) (by omega)) dL_law_1505 ?_
    refine asl (z := (wouQ σ (xs (i + 1)).toNatClampNeg (xs (i + 2)) (xs (i + 3)).toNatClampNeg (xs (i + 4)).toNatClampNeg (xs (i + 5)).toNatClampNeg).toInt64) ((congrArg og1 (nI_clamp (by omega))).trans ho1) ?_
    refine lv_iload hx hb dL_law_1506 (lv_at hl 0 rfl) ?_
    refine lv_i2l (v := (wouQ σ (xs (i + 1)).toNatClampNeg (xs (i + 2)) (xs (i + 3)).toNatClampNeg (xs (i + 4)).toNatClampNeg (xs (i + 5)).toNatClampNeg).toInt64) hx hb dL_law_1508 rfl ?_
    refine rLcmp hx hb dL_law_1509 ?_
    refine lv_if_eq (tgt := 1515) hx hb dL_law_1510 (by decide) (fun _ => ?_) (fun c => absurd rfl c)
    refine lv_goto (tgt := 1710) hx hb dL_law_1515 (by decide) ?_
    refine W.widen (k := cells + 2) (n := slots + 12) (by omega) (by omega) ?_
    exact KK _ _ _ ⟨f1, z1, F1, Z1, og1, v1, hh1, g1, _, _, _, _, _, hX1, hM1, hP, hD, hS⟩ (lv_sub hl [2, 3, 4, 5, 6] rfl)

set_option maxHeartbeats 4000000 in
set_option maxRecDepth 100000 in
theorem lw_s_hides {p : Program} {l : Launch} {e : Env} {s : State} {m : MethodId} {below : List Frame} {meth : Method} {c : Code} {bs L : Nat} {xs : Nat → Int32} {Q : State → Prop} (C0 : lw_At p s m meth c bs L xs) (hfl : l.stackTraces = false) (hL : L ≤ 3072) {Γ : Gm} (hK : gK Γ s) (hE : gE (fun q : Nat => s.heap.size ≤ q) s) {a : Nat → Nat} {b : Nat → Nat → Nat} {rf : Nat → Option Nat} (hrf : ∀ i, i < 6 → rf i = some (b i 0)) {am : Nat → Nat} {o i : Nat} (hi : i + 6 ≤ L) {cells slots : Nat} (hc : cells + 2 ≤ 625301) (hs : slots + 12 ≤ 7220200) {H : Heap} {locs : List Loc} (hI : SI Γ s a b rf am o H locs) {ls : Array Slot} (hl : lv_has ls 9 (LVs bs (a 34) (am 0) o i)) (KK : ∀ (H : Heap) (locs : List Loc) (ls : Array Slot), SI Γ s a b rf am o H locs → lv_has ls 9 (LVs bs (a 34) (am 0) o i) → W p l e room_1 s m #[Value.ref bs] below meth c H locs (cells + 2) (slots + 12) Q (F0 m 1710 ls [])) : W p l e room_1 s m #[Value.ref bs] below meth c H locs cells slots Q (F0 m 1518 ls []) := by
  obtain ⟨hx, hb, hrt, hml, hown, hts0, hX0, hbl, hlk, hgv⟩ := id C0
  have hts : ∀ w ∈ wsL_law, w.before #[Value.ref bs] s = true := fun w h => hts0 w (wsL_law_in w h)
  have S : CallFix p m c cL_law 9 s #[Value.ref bs] wsL_law RL := ⟨hx, hb, hml, hown, hts⟩
  have hA : ∀ q : Nat, s.heap.size ≤ q → (fun q : Nat => s.heap.size ≤ q) q := fun _ h => h
  have hbA : ¬ (fun q : Nat => s.heap.size ≤ q) bs := Nat.not_le.mpr hbl
  obtain ⟨f, z, F, Z, og, v, hh, g, σ, sc, ss, nb, bb, hX, hM, hP, hD, hS⟩ := hI
  have hl : lv_has ls 9 [(0, .ref bs), (1, .ref (a 34)), (2, .ref (am 0)), (3, .ref o), (4, .int (nI i))] := hl
  refine lv_aload_n hx hb dL_law_1518 rfl (lv_at hl 1 rfl) ?_
  refine lv_aload_n hx hb dL_law_1519 rfl (lv_at hl 0 rfl) ?_
  refine lv_iload hx hb dL_law_1520 (lv_at hl 4 rfl) ?_
  refine lv_iconst (v := nI 1) hx hb dL_law_1522 (by decide) ?_
  refine lv_iadd hx hb dL_law_1523 ?_
  refine asi (z := nI (i + 1)) (nI_add _ _) ?_
  refine va_sld hx hb hX0 hbl hbA hS (vp_in_nI (by omega) (by omega)) dL_law_1524 ?_
  refine asi (z := xs (i + 1)) (congrArg xs (nI_clamp (by omega))) ?_
  refine lv_aload_n hx hb dL_law_1525 rfl (lv_at hl 3 rfl) ?_
  refine hCi (As := [.ref (a 34), .int (xs (i + 1)), .ref o]) (rest := []) (m_L_hides l hfl Γ _ a b rf hrf f z F Z σ sc ss nb bb hX o og (xs (i + 1))) hE S k_L_hides gL_law_L_hides ⟨(Nat.le_of_ble_eq_true rfl), (Nat.le_of_ble_eq_true rfl)⟩ hK hP hD hS hA rfl hl.1 (Nat.le_of_ble_eq_true rfl) rfl dL_law_1526 ⟨by show cells + 0 + 1 ≤ 625301; omega, by show slots + 0 + 6 ≤ 7220200; omega⟩ (fun r u H locs hr hP hD hS => ?_)
  obtain ⟨⟨f1, z1, F1, Z1⟩, og1⟩ := u
  obtain ⟨hr0, hr1, hr2⟩ := hr
  subst hr0
  have hP : gP Γ (wLw Γ a b rf f1 z1 F1 Z1 o og1 am v hh g) H := hP
  have hD : va_D (fun q : Nat => s.heap.size ≤ q) (wLw Γ a b rf f1 z1 F1 Z1 o og1 am v hh g) := hD
  refine lv_istore (lv' := [(5, .int (nI (hiC (xs (i + 1))))), (0, .ref bs), (1, .ref (a 34)), (2, .ref (am 0)), (3, .ref o), (4, .int (nI i))]) hx hb dL_law_1529 hl (by decide) rfl (fun ls hl => ?_)
  refine lv_aload_n hx hb dL_law_1531 rfl (lv_at hl 3 rfl) ?_
  refine lv_aload_n hx hb dL_law_1532 rfl (lv_at hl 1 rfl) ?_
  refine lv_iload hx hb dL_law_1533 (lv_at hl 5 rfl) ?_
  refine lv_iconst (v := nI 1) hx hb dL_law_1535 (by decide) ?_
  refine lv_iadd hx hb dL_law_1536 ?_
  refine asi (z := nI (i + 1)) (nI_add _ _) ?_
  refine va_sld hx hb hX0 hbl hbA hS (vp_in_nI (by omega) (by omega)) dL_law_1537 ?_
  refine asi (z := xs (i + 1)) (congrArg xs (nI_clamp (by omega))) ?_
  refine aWi (As := [.int (xs (i + 1))]) (rest := []) (wr := (o, oC Γ og1) :: wXo Γ a b rf f1 z1 F1 Z1) (m_X9_hides l Γ _ am v hh g σ sc ss nb bb hM (xs (i + 1))) S k_X9_hides gL_law_X9_hides rfl ⟨(Nat.le_of_ble_eq_true rfl), (Nat.le_of_ble_eq_true rfl)⟩ hK (gP_sw hP) (gD_sw hD) hS hA 0 (ci := 9) rfl rfl rfl rfl hl.1 (Nat.le_of_ble_eq_true rfl) rfl dL_law_1538 ⟨by show cells + 1 + 0 ≤ 625301; omega, by show slots + 6 + 0 ≤ 7220200; omega⟩ (fun r u H locs hr hP hD hS => ?_)
  obtain ⟨v1, hh1, g1⟩ := u
  have hP : gP Γ (wLw Γ a b rf f1 z1 F1 Z1 o og1 am v1 hh1 g1) H := gP_sw (w1 := wMd Γ am v1 hh1 g1) hP
  have hD : va_D (fun q : Nat => s.heap.size ≤ q) (wLw Γ a b rf f1 z1 F1 Z1 o og1 am v1 hh1 g1) := gD_sw (w1 := wMd Γ am v1 hh1 g1) hD
  obtain ⟨ht0, hm1, hm2⟩ := hr
  refine lv_istore (lv' := [(6, .int r), (5, .int (nI (hiC (xs (i + 1))))), (0, .ref bs), (1, .ref (a 34)), (2, .ref (am 0)), (3, .ref o), (4, .int (nI i))]) hx hb dL_law_1541 hl (by decide) rfl (fun ls hl => ?_)
  refine lv_aload_n hx hb dL_law_1543 rfl (lv_at hl 4 rfl) ?_
  refine rRi (As := []) (rest := []) (wr := (o, oC Γ og1) :: wXo Γ a b rf f1 z1 F1 Z1) (m_X9_thrown l Γ am v1 hh1 g1) S k_X9_thrown gL_law_X9_thrown rfl ⟨(Nat.le_of_ble_eq_true rfl), (Nat.le_of_ble_eq_true rfl)⟩ hK (gP_sw hP) 0 (ci := 9) rfl rfl rfl rfl hl.1 (Nat.le_of_ble_eq_true rfl) rfl dL_law_1544 ⟨by show cells + 1 ≤ 625301; omega, by show slots + 6 ≤ 7220200; omega⟩ (fun t ht => ?_)
  subst ht
  refine asi (z := nI (hiC (xs (i + 1)))) ht0 ?_
  refine lv_iload hx hb dL_law_1547 (lv_at hl 1 rfl) ?_
  refine lv_icmp_eq (tgt := 1554) hx hb dL_law_1549 (by decide) (fun _ => ?_) (fun c => absurd rfl c)
  refine lv_iload hx hb dL_law_1554 (lv_at hl 1 rfl) ?_
  have hcle : hiC (xs (i + 1)) < 2 ^ 31 := by unfold hiC; (repeat' split) <;> decide
  refine lv_if_ne (tgt := 1571) hx hb dL_law_1556 (by decide) (fun ck => ?_) (fun ck => ?_)
  · have hk : ¬ hiC (xs (i + 1)) = 0 := fun h => ck (by rw [h]; rfl)
    refine lv_goto (tgt := 1710) hx hb dL_law_1571 (by decide) ?_
    refine W.widen (k := cells + 2) (n := slots + 12) (by omega) (by omega) ?_
    exact KK _ _ _ ⟨f1, z1, F1, Z1, og1, v1, hh1, g1, _, _, _, _, _, (hr2 hk), (hm2 hk).2, hP, hD, hS⟩ (lv_sub hl [2, 3, 4, 5, 6] rfl)
  · have hk : hiC (xs (i + 1)) = 0 := (nI_eq (a := hiC (xs (i + 1))) (b := 0) hcle (by decide)).mp ck
    obtain ⟨ho1, hX1⟩ := hr1 hk
    obtain ⟨hr6, hM1⟩ := hm1 hk
    subst hr6
    have hl : lv_has ls 9 [(6, .int (nI (hidQ σ (xs (i + 1)).toNatClampNeg))), (5, .int (nI (hiC (xs (i + 1))))), (0, .ref bs), (1, .ref (a 34)), (2, .ref (am 0)), (3, .ref o), (4, .int (nI i))] := hl
    refine lv_aload_n hx hb dL_law_1559 rfl (lv_at hl 5 rfl) ?_
    refine lv_iconst (v := nI 0) hx hb dL_law_1560 (by decide) ?_
    refine va_lald hx hb hK hP 0 2 rfl rfl (vp_in_nI (by omega) (by omega)) dL_law_1561 ?_
    refine asl (z := (nI (hidQ σ (xs (i + 1)).toNatClampNeg)).toInt64) ((congrArg og1 (nI_clamp (by omega))).trans ho1) ?_
    refine lv_iload hx hb dL_law_1562 (lv_at hl 0 rfl) ?_
    refine lv_i2l (v := (nI (hidQ σ (xs (i + 1)).toNatClampNeg)).toInt64) hx hb dL_law_1564 rfl ?_
    refine rLcmp hx hb dL_law_1565 ?_
    refine lv_if_eq (tgt := 1571) hx hb dL_law_1566 (by decide) (fun _ => ?_) (fun c => absurd rfl c)
    refine lv_goto (tgt := 1710) hx hb dL_law_1571 (by decide) ?_
    refine W.widen (k := cells + 2) (n := slots + 12) (by omega) (by omega) ?_
    exact KK _ _ _ ⟨f1, z1, F1, Z1, og1, v1, hh1, g1, _, _, _, _, _, hX1, hM1, hP, hD, hS⟩ (lv_sub hl [2, 3, 4, 5, 6] rfl)

set_option maxHeartbeats 4000000 in
set_option maxRecDepth 100000 in
theorem lw_s_blindest {p : Program} {l : Launch} {e : Env} {s : State} {m : MethodId} {below : List Frame} {meth : Method} {c : Code} {bs L : Nat} {xs : Nat → Int32} {Q : State → Prop} (C0 : lw_At p s m meth c bs L xs) (hfl : l.stackTraces = false) (hL : L ≤ 3072) {Γ : Gm} (hK : gK Γ s) (hE : gE (fun q : Nat => s.heap.size ≤ q) s) {a : Nat → Nat} {b : Nat → Nat → Nat} {rf : Nat → Option Nat} (hrf : ∀ i, i < 6 → rf i = some (b i 0)) {am : Nat → Nat} {o i : Nat} (hi : i + 6 ≤ L) {cells slots : Nat} (hc : cells + 2 ≤ 625301) (hs : slots + 12 ≤ 7220200) {H : Heap} {locs : List Loc} (hI : SI Γ s a b rf am o H locs) {ls : Array Slot} (hl : lv_has ls 9 (LVs bs (a 34) (am 0) o i)) (KK : ∀ (H : Heap) (locs : List Loc) (ls : Array Slot), SI Γ s a b rf am o H locs → lv_has ls 9 (LVs bs (a 34) (am 0) o i) → W p l e room_1 s m #[Value.ref bs] below meth c H locs (cells + 2) (slots + 12) Q (F0 m 1710 ls [])) : W p l e room_1 s m #[Value.ref bs] below meth c H locs cells slots Q (F0 m 1574 ls []) := by
  obtain ⟨hx, hb, hrt, hml, hown, hts0, hX0, hbl, hlk, hgv⟩ := id C0
  have hts : ∀ w ∈ wsL_law, w.before #[Value.ref bs] s = true := fun w h => hts0 w (wsL_law_in w h)
  have S : CallFix p m c cL_law 9 s #[Value.ref bs] wsL_law RL := ⟨hx, hb, hml, hown, hts⟩
  have hA : ∀ q : Nat, s.heap.size ≤ q → (fun q : Nat => s.heap.size ≤ q) q := fun _ h => h
  have hbA : ¬ (fun q : Nat => s.heap.size ≤ q) bs := Nat.not_le.mpr hbl
  obtain ⟨f, z, F, Z, og, v, hh, g, σ, sc, ss, nb, bb, hX, hM, hP, hD, hS⟩ := hI
  have hl : lv_has ls 9 [(0, .ref bs), (1, .ref (a 34)), (2, .ref (am 0)), (3, .ref o), (4, .int (nI i))] := hl
  refine lv_aload_n hx hb dL_law_1574 rfl (lv_at hl 1 rfl) ?_
  refine rRi (As := []) (rest := []) (wr := wMd Γ am v hh g ++ [(o, oC Γ og)]) (m_X8_blindest l Γ a b rf f z F Z σ hX.1 hX.2.1) S k_X8_blindest gL_law_X8_blindest rfl ⟨(Nat.le_of_ble_eq_true rfl), (Nat.le_of_ble_eq_true rfl)⟩ hK (gP_perm hP (lw_pm (o, oC Γ og) (wXo Γ a b rf f z F Z) (wMd Γ am v hh g))) 0 (ci := 8) rfl rfl rfl rfl hl.1 (Nat.le_of_ble_eq_true rfl) rfl dL_law_1575 ⟨by show cells ≤ 625301; omega, by show slots ≤ 7220200; omega⟩ (fun r hr => ?_)
  subst hr
  refine lv_aload_n hx hb dL_law_1578 rfl (lv_at hl 2 rfl) ?_
  refine aWi (As := []) (rest := [.int (nI (blF (seenN σ) 5))]) (wr := (o, oC Γ og) :: wXo Γ a b rf f z F Z) (m_X9_blindest l Γ _ am v hh g σ sc ss nb bb hM ) S k_X9_blindest gL_law_X9_blindest rfl ⟨(Nat.le_of_ble_eq_true rfl), (Nat.le_of_ble_eq_true rfl)⟩ hK (gP_sw hP) (gD_sw hD) hS hA 0 (ci := 9) rfl rfl rfl rfl hl.1 (Nat.le_of_ble_eq_true rfl) rfl dL_law_1579 ⟨by show cells + 0 + 0 ≤ 625301; omega, by show slots + 0 + 0 ≤ 7220200; omega⟩ (fun r u H locs hr hP hD hS => ?_)
  obtain ⟨v1, hh1, g1⟩ := u
  have hP : gP Γ (wLw Γ a b rf f z F Z o og am v1 hh1 g1) H := gP_sw (w1 := wMd Γ am v1 hh1 g1) hP
  have hD : va_D (fun q : Nat => s.heap.size ≤ q) (wLw Γ a b rf f z F Z o og am v1 hh1 g1) := gD_sw (w1 := wMd Γ am v1 hh1 g1) hD
  obtain ⟨-, hm1, -⟩ := hr
  obtain ⟨hr, hM1⟩ := hm1 rfl
  subst hr
  refine lv_icmp_eq (tgt := 1710) hx hb dL_law_1582 (by decide) (fun _ => ?_) (fun c => absurd rfl c)
  refine W.widen (k := cells + 2) (n := slots + 12) (by omega) (by omega) ?_
  exact KK _ _ _ ⟨f, z, F, Z, og, v1, hh1, g1, _, _, _, _, _, hX, hM1, hP, hD, hS⟩ (lv_sub hl [0, 1, 2, 3, 4] rfl)

set_option maxHeartbeats 4000000 in
set_option maxRecDepth 100000 in
theorem lw_s_needed {p : Program} {l : Launch} {e : Env} {s : State} {m : MethodId} {below : List Frame} {meth : Method} {c : Code} {bs L : Nat} {xs : Nat → Int32} {Q : State → Prop} (C0 : lw_At p s m meth c bs L xs) (hfl : l.stackTraces = false) (hL : L ≤ 3072) {Γ : Gm} (hK : gK Γ s) (hE : gE (fun q : Nat => s.heap.size ≤ q) s) {a : Nat → Nat} {b : Nat → Nat → Nat} {rf : Nat → Option Nat} (hrf : ∀ i, i < 6 → rf i = some (b i 0)) {am : Nat → Nat} {o i : Nat} (hi : i + 6 ≤ L) {cells slots : Nat} (hc : cells + 2 ≤ 625301) (hs : slots + 12 ≤ 7220200) {H : Heap} {locs : List Loc} (hI : SI Γ s a b rf am o H locs) {ls : Array Slot} (hl : lv_has ls 9 (LVs bs (a 34) (am 0) o i)) (KK : ∀ (H : Heap) (locs : List Loc) (ls : Array Slot), SI Γ s a b rf am o H locs → lv_has ls 9 (LVs bs (a 34) (am 0) o i) → W p l e room_1 s m #[Value.ref bs] below meth c H locs (cells + 2) (slots + 12) Q (F0 m 1710 ls [])) : W p l e room_1 s m #[Value.ref bs] below meth c H locs cells slots Q (F0 m 1587 ls []) := by
  obtain ⟨hx, hb, hrt, hml, hown, hts0, hX0, hbl, hlk, hgv⟩ := id C0
  have hts : ∀ w ∈ wsL_law, w.before #[Value.ref bs] s = true := fun w h => hts0 w (wsL_law_in w h)
  have S : CallFix p m c cL_law 9 s #[Value.ref bs] wsL_law RL := ⟨hx, hb, hml, hown, hts⟩
  have hA : ∀ q : Nat, s.heap.size ≤ q → (fun q : Nat => s.heap.size ≤ q) q := fun _ h => h
  have hbA : ¬ (fun q : Nat => s.heap.size ≤ q) bs := Nat.not_le.mpr hbl
  obtain ⟨f, z, F, Z, og, v, hh, g, σ, sc, ss, nb, bb, hX, hM, hP, hD, hS⟩ := hI
  have hl : lv_has ls 9 [(0, .ref bs), (1, .ref (a 34)), (2, .ref (am 0)), (3, .ref o), (4, .int (nI i))] := hl
  refine lv_aload_n hx hb dL_law_1587 rfl (lv_at hl 1 rfl) ?_
  refine lv_aload_n hx hb dL_law_1588 rfl (lv_at hl 0 rfl) ?_
  refine lv_iload hx hb dL_law_1589 (lv_at hl 4 rfl) ?_
  refine lv_iconst (v := nI 1) hx hb dL_law_1591 (by decide) ?_
  refine lv_iadd hx hb dL_law_1592 ?_
  refine asi (z := nI (i + 1)) (nI_add _ _) ?_
  refine va_sld hx hb hX0 hbl hbA hS (vp_in_nI (by omega) (by omega)) dL_law_1593 ?_
  refine asi (z := xs (i + 1)) (congrArg xs (nI_clamp (by omega))) ?_
  refine lv_aload_n hx hb dL_law_1594 rfl (lv_at hl 0 rfl) ?_
  refine lv_iload hx hb dL_law_1595 (lv_at hl 4 rfl) ?_
  refine lv_iconst (v := nI 2) hx hb dL_law_1597 (by decide) ?_
  refine lv_iadd hx hb dL_law_1598 ?_
  refine asi (z := nI (i + 2)) (nI_add _ _) ?_
  refine va_sld hx hb hX0 hbl hbA hS (vp_in_nI (by omega) (by omega)) dL_law_1599 ?_
  refine asi (z := xs (i + 2)) (congrArg xs (nI_clamp (by omega))) ?_
  refine lv_aload_n hx hb dL_law_1600 rfl (lv_at hl 3 rfl) ?_
  refine hCi (As := [.ref (a 34), .int (xs (i + 1)), .int (xs (i + 2)), .ref o]) (rest := []) (m_L_needed l hfl Γ _ a b rf hrf f z F Z σ sc ss nb bb hX o og (xs (i + 1)) (xs (i + 2))) hE S k_L_needed gL_law_L_needed ⟨(Nat.le_of_ble_eq_true rfl), (Nat.le_of_ble_eq_true rfl)⟩ hK hP hD hS hA rfl hl.1 (Nat.le_of_ble_eq_true rfl) rfl dL_law_1601 ⟨by show cells + 0 + 1 ≤ 625301; omega, by show slots + 0 + 6 ≤ 7220200; omega⟩ (fun r u H locs hr hP hD hS => ?_)
  obtain ⟨⟨f1, z1, F1, Z1⟩, og1⟩ := u
  obtain ⟨hr0, hr1, hr2⟩ := hr
  subst hr0
  have hP : gP Γ (wLw Γ a b rf f1 z1 F1 Z1 o og1 am v hh g) H := hP
  have hD : va_D (fun q : Nat => s.heap.size ≤ q) (wLw Γ a b rf f1 z1 F1 Z1 o og1 am v hh g) := hD
  refine lv_istore (lv' := [(5, .int (nI (neC (xs (i + 1)) (xs (i + 2))))), (0, .ref bs), (1, .ref (a 34)), (2, .ref (am 0)), (3, .ref o), (4, .int (nI i))]) hx hb dL_law_1604 hl (by decide) rfl (fun ls hl => ?_)
  refine lv_aload_n hx hb dL_law_1606 rfl (lv_at hl 3 rfl) ?_
  refine lv_aload_n hx hb dL_law_1607 rfl (lv_at hl 1 rfl) ?_
  refine lv_iload hx hb dL_law_1608 (lv_at hl 5 rfl) ?_
  refine lv_iconst (v := nI 1) hx hb dL_law_1610 (by decide) ?_
  refine lv_iadd hx hb dL_law_1611 ?_
  refine asi (z := nI (i + 1)) (nI_add _ _) ?_
  refine va_sld hx hb hX0 hbl hbA hS (vp_in_nI (by omega) (by omega)) dL_law_1612 ?_
  refine asi (z := xs (i + 1)) (congrArg xs (nI_clamp (by omega))) ?_
  refine lv_aload_n hx hb dL_law_1613 rfl (lv_at hl 1 rfl) ?_
  refine lv_iload hx hb dL_law_1614 (lv_at hl 5 rfl) ?_
  refine lv_iconst (v := nI 2) hx hb dL_law_1616 (by decide) ?_
  refine lv_iadd hx hb dL_law_1617 ?_
  refine asi (z := nI (i + 2)) (nI_add _ _) ?_
  refine va_sld hx hb hX0 hbl hbA hS (vp_in_nI (by omega) (by omega)) dL_law_1618 ?_
  refine asi (z := xs (i + 2)) (congrArg xs (nI_clamp (by omega))) ?_
  refine aWi (As := [.int (xs (i + 1)), .int (xs (i + 2))]) (rest := []) (wr := (o, oC Γ og1) :: wXo Γ a b rf f1 z1 F1 Z1) (m_X9_needed l Γ _ am v hh g σ sc ss nb bb hM (xs (i + 1)) (xs (i + 2))) S k_X9_needed gL_law_X9_needed rfl ⟨(Nat.le_of_ble_eq_true rfl), (Nat.le_of_ble_eq_true rfl)⟩ hK (gP_sw hP) (gD_sw hD) hS hA 0 (ci := 9) rfl rfl rfl rfl hl.1 (Nat.le_of_ble_eq_true rfl) rfl dL_law_1619 ⟨by show cells + 1 + 0 ≤ 625301; omega, by show slots + 6 + 0 ≤ 7220200; omega⟩ (fun r u H locs hr hP hD hS => ?_)
  obtain ⟨v1, hh1, g1⟩ := u
  have hP : gP Γ (wLw Γ a b rf f1 z1 F1 Z1 o og1 am v1 hh1 g1) H := gP_sw (w1 := wMd Γ am v1 hh1 g1) hP
  have hD : va_D (fun q : Nat => s.heap.size ≤ q) (wLw Γ a b rf f1 z1 F1 Z1 o og1 am v1 hh1 g1) := gD_sw (w1 := wMd Γ am v1 hh1 g1) hD
  obtain ⟨ht0, hm1, hm2⟩ := hr
  refine lv_istore (lv' := [(6, .int r), (5, .int (nI (neC (xs (i + 1)) (xs (i + 2))))), (0, .ref bs), (1, .ref (a 34)), (2, .ref (am 0)), (3, .ref o), (4, .int (nI i))]) hx hb dL_law_1622 hl (by decide) rfl (fun ls hl => ?_)
  refine lv_aload_n hx hb dL_law_1624 rfl (lv_at hl 4 rfl) ?_
  refine rRi (As := []) (rest := []) (wr := (o, oC Γ og1) :: wXo Γ a b rf f1 z1 F1 Z1) (m_X9_thrown l Γ am v1 hh1 g1) S k_X9_thrown gL_law_X9_thrown rfl ⟨(Nat.le_of_ble_eq_true rfl), (Nat.le_of_ble_eq_true rfl)⟩ hK (gP_sw hP) 0 (ci := 9) rfl rfl rfl rfl hl.1 (Nat.le_of_ble_eq_true rfl) rfl dL_law_1625 ⟨by show cells + 1 ≤ 625301; omega, by show slots + 6 ≤ 7220200; omega⟩ (fun t ht => ?_)
  subst ht
  refine asi (z := nI (neC (xs (i + 1)) (xs (i + 2)))) ht0 ?_
  refine lv_iload hx hb dL_law_1628 (lv_at hl 1 rfl) ?_
  refine lv_icmp_eq (tgt := 1635) hx hb dL_law_1630 (by decide) (fun _ => ?_) (fun c => absurd rfl c)
  refine lv_iload hx hb dL_law_1635 (lv_at hl 1 rfl) ?_
  have hcle : neC (xs (i + 1)) (xs (i + 2)) < 2 ^ 31 := by unfold neC; (repeat' split) <;> decide
  refine lv_if_ne (tgt := 1652) hx hb dL_law_1637 (by decide) (fun ck => ?_) (fun ck => ?_)
  · have hk : ¬ neC (xs (i + 1)) (xs (i + 2)) = 0 := fun h => ck (by rw [h]; rfl)
    refine lv_goto (tgt := 1710) hx hb dL_law_1652 (by decide) ?_
    refine W.widen (k := cells + 2) (n := slots + 12) (by omega) (by omega) ?_
    exact KK _ _ _ ⟨f1, z1, F1, Z1, og1, v1, hh1, g1, _, _, _, _, _, (hr2 hk), (hm2 hk).2, hP, hD, hS⟩ (lv_sub hl [2, 3, 4, 5, 6] rfl)
  · have hk : neC (xs (i + 1)) (xs (i + 2)) = 0 := (nI_eq (a := neC (xs (i + 1)) (xs (i + 2))) (b := 0) hcle (by decide)).mp ck
    obtain ⟨ho1, hX1⟩ := hr1 hk
    obtain ⟨hr6, hM1⟩ := hm1 hk
    subst hr6
    have hl : lv_has ls 9 [(6, .int (needQ σ (xs (i + 1)).toNatClampNeg (xs (i + 2)))), (5, .int (nI (neC (xs (i + 1)) (xs (i + 2))))), (0, .ref bs), (1, .ref (a 34)), (2, .ref (am 0)), (3, .ref o), (4, .int (nI i))] := hl
    refine lv_aload_n hx hb dL_law_1640 rfl (lv_at hl 5 rfl) ?_
    refine lv_iconst (v := nI 0) hx hb dL_law_1641 (by decide) ?_
    refine va_lald hx hb hK hP 0 2 rfl rfl (vp_in_nI (by omega) (by omega)) dL_law_1642 ?_
    refine asl (z := (needQ σ (xs (i + 1)).toNatClampNeg (xs (i + 2))).toInt64) ((congrArg og1 (nI_clamp (by omega))).trans ho1) ?_
    refine lv_iload hx hb dL_law_1643 (lv_at hl 0 rfl) ?_
    refine lv_i2l (v := (needQ σ (xs (i + 1)).toNatClampNeg (xs (i + 2))).toInt64) hx hb dL_law_1645 rfl ?_
    refine rLcmp hx hb dL_law_1646 ?_
    refine lv_if_eq (tgt := 1652) hx hb dL_law_1647 (by decide) (fun _ => ?_) (fun c => absurd rfl c)
    refine lv_goto (tgt := 1710) hx hb dL_law_1652 (by decide) ?_
    refine W.widen (k := cells + 2) (n := slots + 12) (by omega) (by omega) ?_
    exact KK _ _ _ ⟨f1, z1, F1, Z1, og1, v1, hh1, g1, _, _, _, _, _, hX1, hM1, hP, hD, hS⟩ (lv_sub hl [2, 3, 4, 5, 6] rfl)

set_option maxHeartbeats 4000000 in
set_option maxRecDepth 100000 in
theorem lw_s_openness {p : Program} {l : Launch} {e : Env} {s : State} {m : MethodId} {below : List Frame} {meth : Method} {c : Code} {bs L : Nat} {xs : Nat → Int32} {Q : State → Prop} (C0 : lw_At p s m meth c bs L xs) (hfl : l.stackTraces = false) (hL : L ≤ 3072) {Γ : Gm} (hK : gK Γ s) (hE : gE (fun q : Nat => s.heap.size ≤ q) s) {a : Nat → Nat} {b : Nat → Nat → Nat} {rf : Nat → Option Nat} (hrf : ∀ i, i < 6 → rf i = some (b i 0)) {am : Nat → Nat} {o i : Nat} (hi : i + 6 ≤ L) {cells slots : Nat} (hc : cells + 2 ≤ 625301) (hs : slots + 12 ≤ 7220200) {H : Heap} {locs : List Loc} (hI : SI Γ s a b rf am o H locs) {ls : Array Slot} (hl : lv_has ls 9 (LVs bs (a 34) (am 0) o i)) (KK : ∀ (H : Heap) (locs : List Loc) (ls : Array Slot), SI Γ s a b rf am o H locs → lv_has ls 9 (LVs bs (a 34) (am 0) o i) → W p l e room_1 s m #[Value.ref bs] below meth c H locs (cells + 2) (slots + 12) Q (F0 m 1710 ls [])) : W p l e room_1 s m #[Value.ref bs] below meth c H locs cells slots Q (F0 m 1655 ls []) := by
  obtain ⟨hx, hb, hrt, hml, hown, hts0, hX0, hbl, hlk, hgv⟩ := id C0
  have hts : ∀ w ∈ wsL_law, w.before #[Value.ref bs] s = true := fun w h => hts0 w (wsL_law_in w h)
  have S : CallFix p m c cL_law 9 s #[Value.ref bs] wsL_law RL := ⟨hx, hb, hml, hown, hts⟩
  have hA : ∀ q : Nat, s.heap.size ≤ q → (fun q : Nat => s.heap.size ≤ q) q := fun _ h => h
  have hbA : ¬ (fun q : Nat => s.heap.size ≤ q) bs := Nat.not_le.mpr hbl
  obtain ⟨f, z, F, Z, og, v, hh, g, σ, sc, ss, nb, bb, hX, hM, hP, hD, hS⟩ := hI
  have hl : lv_has ls 9 [(0, .ref bs), (1, .ref (a 34)), (2, .ref (am 0)), (3, .ref o), (4, .int (nI i))] := hl
  refine lv_aload_n hx hb dL_law_1655 rfl (lv_at hl 1 rfl) ?_
  refine rRd (As := []) (rest := []) (wr := wMd Γ am v hh g ++ [(o, oC Γ og)]) (m_X8_openness l Γ a b rf f z F Z σ hX.1 hX.2.1) S k_X8_openness gL_law_X8_openness rfl ⟨(Nat.le_of_ble_eq_true rfl), (Nat.le_of_ble_eq_true rfl)⟩ hK (gP_perm hP (lw_pm (o, oC Γ og) (wXo Γ a b rf f z F Z) (wMd Γ am v hh g))) 0 (ci := 8) rfl rfl rfl rfl hl.1 (Nat.le_of_ble_eq_true rfl) rfl dL_law_1656 ⟨by show cells ≤ 625301; omega, by show slots ≤ 7220200; omega⟩ (fun r hr => ?_)
  subst hr
  refine lv_dstore (lv' := [(5, .double (shareQ σ)), (0, .ref bs), (1, .ref (a 34)), (2, .ref (am 0)), (3, .ref o), (4, .int (nI i))]) hx hb dL_law_1659 hl (by decide) rfl (fun ls hl => ?_)
  refine lv_aload_n hx hb dL_law_1661 rfl (lv_at hl 3 rfl) ?_
  refine aWd (As := []) (rest := []) (wr := (o, oC Γ og) :: wXo Γ a b rf f z F Z) (m_X9_openness l Γ _ am v hh g σ sc ss nb bb hM ) S k_X9_openness gL_law_X9_openness rfl ⟨(Nat.le_of_ble_eq_true rfl), (Nat.le_of_ble_eq_true rfl)⟩ hK (gP_sw hP) (gD_sw hD) hS hA 0 (ci := 9) rfl rfl rfl rfl hl.1 (Nat.le_of_ble_eq_true rfl) rfl dL_law_1662 ⟨by show cells + 0 + 0 ≤ 625301; omega, by show slots + 0 + 0 ≤ 7220200; omega⟩ (fun r u H locs hr hP hD hS => ?_)
  obtain ⟨v1, hh1, g1⟩ := u
  have hP : gP Γ (wLw Γ a b rf f z F Z o og am v1 hh1 g1) H := gP_sw (w1 := wMd Γ am v1 hh1 g1) hP
  have hD : va_D (fun q : Nat => s.heap.size ≤ q) (wLw Γ a b rf f z F Z o og am v1 hh1 g1) := gD_sw (w1 := wMd Γ am v1 hh1 g1) hD
  obtain ⟨hr, -, hM1⟩ := hr
  subst hr
  refine lv_dstore (lv' := [(7, .double (shareQ σ)), (5, .double (shareQ σ)), (0, .ref bs), (1, .ref (a 34)), (2, .ref (am 0)), (3, .ref o), (4, .int (nI i))]) hx hb dL_law_1665 hl (by decide) rfl (fun ls hl => ?_)
  refine lv_dload hx hb dL_law_1667 (lv_at hl 1 rfl) ?_
  refine lv_dload hx hb dL_law_1669 (lv_at hl 0 rfl) ?_
  refine lv_dcmp hx hb dL_law_1671 ?_
  refine asi (z := 0) (bos_n (bos_Q hX.2.1)) ?_
  refine lv_if_eq (tgt := 1693) hx hb dL_law_1672 (by decide) (fun _ => ?_) (fun c => absurd rfl c)
  refine lv_goto (tgt := 1710) hx hb dL_law_1693 (by decide) ?_
  refine W.widen (k := cells + 2) (n := slots + 12) (by omega) (by omega) ?_
  exact KK _ _ _ ⟨f, z, F, Z, og, v1, hh1, g1, _, _, _, _, _, hX, hM1, hP, hD, hS⟩ (lv_sub hl [2, 3, 4, 5, 6] rfl)

set_option maxHeartbeats 4000000 in
set_option maxRecDepth 100000 in
theorem lw_s_digest {p : Program} {l : Launch} {e : Env} {s : State} {m : MethodId} {below : List Frame} {meth : Method} {c : Code} {bs L : Nat} {xs : Nat → Int32} {Q : State → Prop} (C0 : lw_At p s m meth c bs L xs) (hfl : l.stackTraces = false) (hL : L ≤ 3072) {Γ : Gm} (hK : gK Γ s) (hE : gE (fun q : Nat => s.heap.size ≤ q) s) {a : Nat → Nat} {b : Nat → Nat → Nat} {rf : Nat → Option Nat} (hrf : ∀ i, i < 6 → rf i = some (b i 0)) {am : Nat → Nat} {o i : Nat} (hi : i + 6 ≤ L) {cells slots : Nat} (hc : cells + 2 ≤ 625301) (hs : slots + 12 ≤ 7220200) {H : Heap} {locs : List Loc} (hI : SI Γ s a b rf am o H locs) {ls : Array Slot} (hl : lv_has ls 9 (LVs bs (a 34) (am 0) o i)) (KK : ∀ (H : Heap) (locs : List Loc) (ls : Array Slot), SI Γ s a b rf am o H locs → lv_has ls 9 (LVs bs (a 34) (am 0) o i) → W p l e room_1 s m #[Value.ref bs] below meth c H locs (cells + 2) (slots + 12) Q (F0 m 1710 ls [])) : W p l e room_1 s m #[Value.ref bs] below meth c H locs cells slots Q (F0 m 1696 ls []) := by
  obtain ⟨hx, hb, hrt, hml, hown, hts0, hX0, hbl, hlk, hgv⟩ := id C0
  have hts : ∀ w ∈ wsL_law, w.before #[Value.ref bs] s = true := fun w h => hts0 w (wsL_law_in w h)
  have S : CallFix p m c cL_law 9 s #[Value.ref bs] wsL_law RL := ⟨hx, hb, hml, hown, hts⟩
  have hA : ∀ q : Nat, s.heap.size ≤ q → (fun q : Nat => s.heap.size ≤ q) q := fun _ h => h
  have hbA : ¬ (fun q : Nat => s.heap.size ≤ q) bs := Nat.not_le.mpr hbl
  obtain ⟨f, z, F, Z, og, v, hh, g, σ, sc, ss, nb, bb, hX, hM, hP, hD, hS⟩ := hI
  have hl : lv_has ls 9 [(0, .ref bs), (1, .ref (a 34)), (2, .ref (am 0)), (3, .ref o), (4, .int (nI i))] := hl
  refine lv_aload_n hx hb dL_law_1696 rfl (lv_at hl 1 rfl) ?_
  refine rRl (As := []) (rest := []) (wr := wMd Γ am v hh g ++ [(o, oC Γ og)]) (m_X8_digest l Γ a b rf f z F Z σ hX.1 hX.2.1 nb bb hX.2.2.2.2.1 hX.2.2.2.2.2.1) S k_X8_digest gL_law_X8_digest rfl ⟨(Nat.le_of_ble_eq_true rfl), (Nat.le_of_ble_eq_true rfl)⟩ hK (gP_perm hP (lw_pm (o, oC Γ og) (wXo Γ a b rf f z F Z) (wMd Γ am v hh g))) 0 (ci := 8) rfl rfl rfl rfl hl.1 (Nat.le_of_ble_eq_true rfl) rfl dL_law_1697 ⟨by show cells ≤ 625301; omega, by show slots ≤ 7220200; omega⟩ (fun r hr => ?_)
  rw [hX.2.2.2.1] at hr
  subst hr
  refine lv_aload_n hx hb dL_law_1700 rfl (lv_at hl 2 rfl) ?_
  refine aWl (As := []) (rest := [.long (dgst σ (nI sc) nb bb)]) (wr := (o, oC Γ og) :: wXo Γ a b rf f z F Z) (m_X9_digest l Γ _ am v hh g σ sc ss nb bb hM ) S k_X9_digest gL_law_X9_digest rfl ⟨(Nat.le_of_ble_eq_true rfl), (Nat.le_of_ble_eq_true rfl)⟩ hK (gP_sw hP) (gD_sw hD) hS hA 0 (ci := 9) rfl rfl rfl rfl hl.1 (Nat.le_of_ble_eq_true rfl) rfl dL_law_1701 ⟨by show cells + 0 + 0 ≤ 625301; omega, by show slots + 0 + 0 ≤ 7220200; omega⟩ (fun r u H locs hr hP hD hS => ?_)
  obtain ⟨v1, hh1, g1⟩ := u
  have hP : gP Γ (wLw Γ a b rf f z F Z o og am v1 hh1 g1) H := gP_sw (w1 := wMd Γ am v1 hh1 g1) hP
  have hD : va_D (fun q : Nat => s.heap.size ≤ q) (wLw Γ a b rf f z F Z o og am v1 hh1 g1) := gD_sw (w1 := wMd Γ am v1 hh1 g1) hD
  obtain ⟨hr, -, hM1⟩ := hr
  subst hr
  refine rLcmp hx hb dL_law_1704 ?_
  refine lv_if_eq (tgt := 1710) hx hb dL_law_1705 (by decide) (fun _ => ?_) (fun c => absurd rfl c)
  refine W.widen (k := cells + 2) (n := slots + 12) (by omega) (by omega) ?_
  exact KK _ _ _ ⟨f, z, F, Z, og, v1, hh1, g1, _, _, _, _, _, hX, hM1, hP, hD, hS⟩ (lv_sub hl [0, 1, 2, 3, 4] rfl)

