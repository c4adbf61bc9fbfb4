/-! The law's start: what the tables and the start give. -/
theorem lw_str {s : State} {args : Array Value} {k : Nat} {tx : String} (h1 : (Cond.stringRef RX8 k tx).before args s = true) (h2 : (Cond.exactly (.string RX8 k) "java/lang/String").before args s = true) : ∃ a, vk_R RX8 k tx a s := by
  obtain ⟨a, _, _, _, ha, -⟩ := Cond.exactly_spec h2
  exact ⟨a, vk_R.of h1 ha⟩
theorem lw_all {P : Nat × String → Prop} {l : List (Nat × String)} (h : ∀ q ∈ l, P q) : ∀ (k : Nat) (q : Nat × String), l[k]? = some q → P q := fun _ _ hk => h _ (List.mem_of_getElem? hk)
theorem lw_sw0 : Cond.stringRef RX8 39 "no such owner or place" ∈ lw_tbl := by decide +kernel
theorem lw_sx0 : Cond.exactly (.string RX8 39) "java/lang/String" ∈ flatC (Jvm.Cond.and given_1 narrow_1) := by decide +kernel
theorem lw_sw1 : Cond.stringRef RX8 53 "value or secrecy is out of range" ∈ lw_tbl := by decide +kernel
theorem lw_sx1 : Cond.exactly (.string RX8 53) "java/lang/String" ∈ flatC (Jvm.Cond.and given_1 narrow_1) := by decide +kernel
theorem lw_sw2 : Cond.stringRef RX8 68 "there are 16 rows" ∈ lw_tbl := by decide +kernel
theorem lw_sx2 : Cond.exactly (.string RX8 68) "java/lang/String" ∈ flatC (Jvm.Cond.and given_1 narrow_1) := by decide +kernel
theorem lw_sw3 : Cond.stringRef RX8 97 "value is out of range" ∈ lw_tbl := by decide +kernel
theorem lw_sx3 : Cond.exactly (.string RX8 97) "java/lang/String" ∈ flatC (Jvm.Cond.and given_1 narrow_1) := by decide +kernel
theorem lw_sw4 : Cond.stringRef RX8 109 "no such person or place" ∈ lw_tbl := by decide +kernel
theorem lw_sx4 : Cond.exactly (.string RX8 109) "java/lang/String" ∈ flatC (Jvm.Cond.and given_1 narrow_1) := by decide +kernel
theorem lw_sw5 : Cond.stringRef RX8 111 "rank is out of range" ∈ lw_tbl := by decide +kernel
theorem lw_sx5 : Cond.exactly (.string RX8 111) "java/lang/String" ∈ flatC (Jvm.Cond.and given_1 narrow_1) := by decide +kernel
theorem lw_sw6 : Cond.stringRef RX8 129 "no such person" ∈ lw_tbl := by decide +kernel
theorem lw_sx6 : Cond.exactly (.string RX8 129) "java/lang/String" ∈ flatC (Jvm.Cond.and given_1 narrow_1) := by decide +kernel
theorem lw_sw7 : Cond.stringRef RX8 131 "nobody is their own master" ∈ lw_tbl := by decide +kernel
theorem lw_sx7 : Cond.exactly (.string RX8 131) "java/lang/String" ∈ flatC (Jvm.Cond.and given_1 narrow_1) := by decide +kernel
theorem lw_sw8 : Cond.stringRef RX8 142 "no such setting" ∈ lw_tbl := by decide +kernel
theorem lw_sx8 : Cond.exactly (.string RX8 142) "java/lang/String" ∈ flatC (Jvm.Cond.and given_1 narrow_1) := by decide +kernel
theorem lw_sw12 : Cond.stringRef RX8 216 "no state is saved" ∈ lw_tbl := by decide +kernel
theorem lw_sx12 : Cond.exactly (.string RX8 216) "java/lang/String" ∈ flatC (Jvm.Cond.and given_1 narrow_1) := by decide +kernel
theorem lw_sw13 : Cond.stringRef RX8 221 "what is not 0 to 4" ∈ lw_tbl := by decide +kernel
theorem lw_sx13 : Cond.exactly (.string RX8 221) "java/lang/String" ∈ flatC (Jvm.Cond.and given_1 narrow_1) := by decide +kernel
theorem lw_sw14 : Cond.stringRef RX8 226 "what is not 0 to 7" ∈ lw_tbl := by decide +kernel
theorem lw_sx14 : Cond.exactly (.string RX8 226) "java/lang/String" ∈ flatC (Jvm.Cond.and given_1 narrow_1) := by decide +kernel
theorem lw_sw15 : Cond.stringRef RX8 234 "place is below 0" ∈ lw_tbl := by decide +kernel
theorem lw_sx15 : Cond.exactly (.string RX8 234) "java/lang/String" ∈ flatC (Jvm.Cond.and given_1 narrow_1) := by decide +kernel
theorem lw_sw16 : Cond.stringRef RX8 239 "what is not 0 to 9" ∈ lw_tbl := by decide +kernel
theorem lw_sx16 : Cond.exactly (.string RX8 239) "java/lang/String" ∈ flatC (Jvm.Cond.and given_1 narrow_1) := by decide +kernel
theorem lw_sw17 : Cond.stringRef RX8 244 "what is not 0 to 3" ∈ lw_tbl := by decide +kernel
theorem lw_sx17 : Cond.exactly (.string RX8 244) "java/lang/String" ∈ flatC (Jvm.Cond.and given_1 narrow_1) := by decide +kernel
theorem lw_sw18 : Cond.stringRef RX8 259 "no such asker or place" ∈ lw_tbl := by decide +kernel
theorem lw_sx18 : Cond.exactly (.string RX8 259) "java/lang/String" ∈ flatC (Jvm.Cond.and given_1 narrow_1) := by decide +kernel
theorem lw_sw19 : Cond.stringRef RX8 319 "no such row" ∈ lw_tbl := by decide +kernel
theorem lw_sx19 : Cond.exactly (.string RX8 319) "java/lang/String" ∈ flatC (Jvm.Cond.and given_1 narrow_1) := by decide +kernel
theorem lw_sw20 : Cond.stringRef RX8 321 "no such rule" ∈ lw_tbl := by decide +kernel
theorem lw_sx20 : Cond.exactly (.string RX8 321) "java/lang/String" ∈ flatC (Jvm.Cond.and given_1 narrow_1) := by decide +kernel
theorem lw_sw21 : Cond.stringRef RX8 323 "least or greatest is out of range" ∈ lw_tbl := by decide +kernel
theorem lw_sx21 : Cond.exactly (.string RX8 323) "java/lang/String" ∈ flatC (Jvm.Cond.and given_1 narrow_1) := by decide +kernel
theorem lw_gS {s : State} {args : Array Value} (hts0 : ∀ w ∈ lw_tbl, w.before args s = true) (hgv : (Jvm.Cond.and given_1 narrow_1).before args s = true) : ∀ (k : Nat) (q : Nat × String), gStr[k]? = some q → ∃ a, vk_R RX8 q.1 q.2 a s := by
  have hs := flat_of_before _ hgv
  refine lw_all ?_
  exact List.forall_mem_cons.mpr ⟨lw_str (hts0 _ lw_sw0) (hs _ lw_sx0), List.forall_mem_cons.mpr ⟨lw_str (hts0 _ lw_sw1) (hs _ lw_sx1), List.forall_mem_cons.mpr ⟨lw_str (hts0 _ lw_sw2) (hs _ lw_sx2), List.forall_mem_cons.mpr ⟨lw_str (hts0 _ lw_sw3) (hs _ lw_sx3), List.forall_mem_cons.mpr ⟨lw_str (hts0 _ lw_sw4) (hs _ lw_sx4), List.forall_mem_cons.mpr ⟨lw_str (hts0 _ lw_sw5) (hs _ lw_sx5), List.forall_mem_cons.mpr ⟨lw_str (hts0 _ lw_sw6) (hs _ lw_sx6), List.forall_mem_cons.mpr ⟨lw_str (hts0 _ lw_sw7) (hs _ lw_sx7), List.forall_mem_cons.mpr ⟨lw_str (hts0 _ lw_sw8) (hs _ lw_sx8), List.forall_mem_cons.mpr ⟨lw_str (hts0 _ lw_sw12) (hs _ lw_sx12), List.forall_mem_cons.mpr ⟨lw_str (hts0 _ lw_sw13) (hs _ lw_sx13), List.forall_mem_cons.mpr ⟨lw_str (hts0 _ lw_sw14) (hs _ lw_sx14), List.forall_mem_cons.mpr ⟨lw_str (hts0 _ lw_sw15) (hs _ lw_sx15), List.forall_mem_cons.mpr ⟨lw_str (hts0 _ lw_sw16) (hs _ lw_sx16), List.forall_mem_cons.mpr ⟨lw_str (hts0 _ lw_sw17) (hs _ lw_sx17), List.forall_mem_cons.mpr ⟨lw_str (hts0 _ lw_sw18) (hs _ lw_sx18), List.forall_mem_cons.mpr ⟨lw_str (hts0 _ lw_sw19) (hs _ lw_sx19), List.forall_mem_cons.mpr ⟨lw_str (hts0 _ lw_sw20) (hs _ lw_sx20), List.forall_mem_cons.mpr ⟨lw_str (hts0 _ lw_sw21) (hs _ lw_sx21), fun _ h => absurd h List.not_mem_nil⟩⟩⟩⟩⟩⟩⟩⟩⟩⟩⟩⟩⟩⟩⟩⟩⟩⟩⟩
theorem lw_gE {s : State} {args : Array Value} (hts0 : ∀ w ∈ lw_tbl, w.before args s = true) (hgv : (Jvm.Cond.and given_1 narrow_1).before args s = true) : gE (fun q : Nat => s.heap.size ≤ q) s := by
  have hs := flat_of_before _ hgv
  have hA : ∀ a : Nat, a < s.heap.size → ¬ (fun q : Nat => s.heap.size ≤ q) a := fun a h => Nat.not_le.mpr h
  exact ⟨vx_Zqof (hts0 _ (by decide +kernel)) (hts0 _ (by decide +kernel)) (hs _ (by decide +kernel)) hA, vx_Zqof (hts0 _ (by decide +kernel)) (hts0 _ (by decide +kernel)) (hs _ (by decide +kernel)) hA, lw_gS hts0 hgv,
    va_Nw.of rfl (hts0 _ (by decide +kernel)), va_Nw.of rfl (hts0 _ (by decide +kernel)), va_Nw.of rfl (hts0 _ (by decide +kernel)), trivial, trivial, trivial,
    va_Nw.of rfl (hts0 _ (by decide +kernel)), va_Nw.of rfl (hts0 _ (by decide +kernel)), va_Nw.of rfl (hts0 _ (by decide +kernel))⟩
theorem lw_gN {s : State} {args : Array Value} (hts0 : ∀ w ∈ lw_tbl, w.before args s = true) : gN s :=
  ⟨va_AO.of (hts0 _ (by decide +kernel)), va_Nw.of rfl (hts0 _ (by decide +kernel)), va_Nw.of rfl (hts0 _ (by decide +kernel)), va_Nw.of rfl (hts0 _ (by decide +kernel)), va_Nw.of rfl (hts0 _ (by decide +kernel)), va_Nw.of rfl (hts0 _ (by decide +kernel))⟩
theorem lw_gK {s : State} {args : Array Value} (hts0 : ∀ w ∈ lw_tbl, w.before args s = true) : ∃ Γ : Gm, gK Γ s := by
  obtain ⟨c0, i0, k0⟩ := u_known (C := RX0) (T := TX0) (N := 2) (n := 2) hts0 (by decide +kernel) (hts0 (.instantiable RX0 2) (by decide +kernel))
  obtain ⟨c1, i1, k1⟩ := u_known (C := RX1) (T := TX1) (N := 3) (n := 3) hts0 (by decide +kernel) (hts0 (.instantiable RX1 3) (by decide +kernel))
  obtain ⟨c2, i2, k2⟩ := u_known (C := RX2) (T := TX2) (N := 2) (n := 2) hts0 (by decide +kernel) (hts0 (.instantiable RX2 2) (by decide +kernel))
  obtain ⟨c3, i3, k3⟩ := u_known (C := RX3) (T := TX3) (N := 1) (n := 1) hts0 (by decide +kernel) (hts0 (.instantiable RX3 1) (by decide +kernel))
  obtain ⟨c4, i4, k4⟩ := u_known (C := RX4) (T := TX4) (N := 3) (n := 3) hts0 (by decide +kernel) (hts0 (.instantiable RX4 3) (by decide +kernel))
  obtain ⟨c5, i5, k5⟩ := u_known (C := RX5) (T := TX5) (N := 5) (n := 5) hts0 (by decide +kernel) (hts0 (.instantiable RX5 5) (by decide +kernel))
  obtain ⟨c6, i6, k6⟩ := u_known (C := RX6) (T := TX6) (N := 6) (n := 6) hts0 (by decide +kernel) (hts0 (.instantiable RX6 6) (by decide +kernel))
  obtain ⟨c7, i7, k7⟩ := u_known (C := RX7) (T := TX7) (N := 3) (n := 3) hts0 (by decide +kernel) (hts0 (.instantiable RX7 3) (by decide +kernel))
  obtain ⟨c8, i8, k8⟩ := u_known (C := RX8) (T := TX8) (N := 3) (n := 3) hts0 (by decide +kernel) (hts0 (.instantiable RX8 3) (by decide +kernel))
  obtain ⟨ci, kI, pI, e1, e2, e3⟩ := Cond.arrayClass_spec (hts0 (.arrayClass .int) (by decide +kernel))
  obtain ⟨pO, co, kO, f1, f2, f3, f4, f5⟩ := Cond.arrayOver_spec (n := RX6) (hts0 (.arrayOver (.object RX6)) (by decide +kernel))
  refine ⟨((fun k => match k with | 0 => c0 | 1 => c1 | 2 => c2 | 3 => c3 | 4 => c4 | 5 => c5 | 6 => c6 | 7 => c7 | _ => c8, fun k => match k with | 0 => i0 | 1 => i1 | 2 => i2 | 3 => i3 | 4 => i4 | 5 => i5 | 6 => i6 | 7 => i7 | _ => i8), ci, co, co), fun k q hq => ?_, fun k q hq => ?_⟩
  · match k, hq with
    | 0, hq => cases hq; exact k0
    | 1, hq => cases hq; exact k1
    | 2, hq => cases hq; exact k2
    | 3, hq => cases hq; exact k3
    | 4, hq => cases hq; exact k4
    | 5, hq => cases hq; exact k5
    | 6, hq => cases hq; exact k6
    | 7, hq => cases hq; exact k7
    | 8, hq => cases hq; exact k8
    | k + 9, hq => simp [vwCl] at hq
  · match k, hq with
    | 0, hq => cases hq; exact ⟨fun _ z => ⟨(fun k h => by cases h), kI, e2, pI, e3⟩, e1⟩
    | 1, hq => cases hq; exact ⟨fun _ z => ⟨(fun k h => by cases h), kO, f3, pO, f4⟩, kO, pO, f3, f4, f1, f5⟩
    | k + 2, hq => simp [gT] at hq
/-- the first state's numbers -/
def sig0 (i : Nat) : Nat := if i = 1 then 15 else if i = 2 then 1 else if i = 3 then 1 else 0
theorem sig0_z {i : Nat} (h : 4 ≤ i) : sig0 i = 0 := by unfold sig0; rw [if_neg (by omega), if_neg (by omega), if_neg (by omega)]
theorem sig0_I : Inv sig0 := by
  refine ⟨by decide, by decide, by decide, by decide, by decide, fun r hr => absurd hr (Nat.not_lt_zero r), fun p hp => ?_, fun p hp => ?_⟩
  · rw [show oP sig0 p 0 = 0 from sig0_z (by omega), show oP sig0 p 1 = 0 from sig0_z (by omega), show oP sig0 p 2 = 0 from sig0_z (by omega)]; decide
  · rw [show oK sig0 p = 0 from sig0_z (by omega)]; exact ⟨by decide, fun k hk => absurd hk (Nat.not_lt_zero k)⟩
theorem sig0_R : Rep sig0 inF inZ := by
  refine ⟨rfl, rfl, rfl, fun r hr => absurd hr (Nat.not_lt_zero r), fun p hp => ?_, fun p hp => ?_, fun i hi => ?_⟩
  · rcases (by omega : p = 0 ∨ p = 1 ∨ p = 2 ∨ p = 3 ∨ p = 4) with rfl | rfl | rfl | rfl | rfl <;> exact ⟨by decide, by decide, by decide, by decide, by decide⟩
  · refine ⟨?_, fun k hk => absurd hk (by rw [show oK sig0 p = 0 from sig0_z (by omega)]; exact Nat.not_lt_zero k)⟩
    rcases (by omega : p = 0 ∨ p = 1 ∨ p = 2 ∨ p = 3 ∨ p = 4) with rfl | rfl | rfl | rfl | rfl <;> decide
  · rcases (by omega : i = 0 ∨ i = 1 ∨ i = 2) with rfl | rfl | rfl <;> decide
theorem sig0_X : XR sig0 0 (fun _ => sig0) 0 (fun _ => 0) inF inZ (fun _ => inF) (fun _ => inZ) :=
  ⟨sig0_R, sig0_I, by decide, rfl, rfl, ⟨by decide, fun i hi => absurd hi (Nat.not_lt_zero i)⟩, 0, by decide, rfl, fun j hj => absurd hj (Nat.not_lt_zero j)⟩
theorem sig0_G : GI 0 sig0 := by
  refine ⟨fun p hp => ?_, fun p hp k hk => absurd hk (by rw [show oK sig0 p = 0 from sig0_z (by omega)]; exact Nat.not_lt_zero k)⟩
  rw [show oP sig0 p 4 = 0 from sig0_z (by omega), show oP sig0 p 3 = 0 from sig0_z (by omega)]; exact ⟨Nat.le_refl _, Nat.le_refl _⟩
theorem sig0_L : LZ (2 * 0) 0 sig0 (fun _ => sig0) := ⟨sig0_G, fun j hj => absurd hj (Nat.not_lt_zero j)⟩
set_option maxHeartbeats 4000000 in
set_option maxRecDepth 100000 in
/-- the law, from its entry -/
theorem whole_start {p : Program} {e : Env} {s : State} {m : MethodId} {below : List Frame} {meth : Method} {c : Code} (l : Launch) (hflags : l.flags = flags0) {b L : Nat} {xs : Nat → Int32} (hL : L ≤ 260) (C0 : lw_At p s m meth c b L xs) : W p l e room_1 s m #[Value.ref b] below meth c s.heap [] 0 0 (lw_Z below #[Value.ref b] s) (entryFrame m ([Value.ref b] : List Value).toArray 13) := by
  obtain ⟨hx, hb, hrt, hml, hown, hts0, hX0, hbl, hlk, hgv⟩ := id C0
  have hfl : l.stackTraces = false := noTr hflags
  have hts : ∀ w ∈ wsL_law, w.before #[Value.ref b] s = true := fun w h => hts0 w (wsL_law_in w h)
  have S : CallFix p m c cL_law 13 s #[Value.ref b] wsL_law RL := ⟨hx, hb, hml, hown, hts⟩
  obtain ⟨Γ, hK⟩ := lw_gK hts0
  have hE := lw_gE hts0 hgv
  have hN := lw_gN hts0
  have hA : ∀ q : Nat, s.heap.size ≤ q → (fun q : Nat => s.heap.size ≤ q) q := fun _ h => h
  have hS : va_S (fun q : Nat => s.heap.size ≤ q) s.heap s.heap [] := va_S.rf
  have hP : gP Γ [] s.heap := fun k q h => by simp at h
  have hD : va_D (fun q : Nat => s.heap.size ≤ q) [] := ⟨fun i j p q h => by simp at h, fun k q h => by simp at h⟩
  have hl := lv_entry ([.ref b]) (n := 13) (Nat.le_of_ble_eq_true rfl)
  rw [lg_entry_eq]
  generalize (lg_sl ([.ref b]) ++ List.replicate (13 - (lg_sl ([.ref b])).length) Slot.unset).toArray = ls at hl ⊢
  have hl : lv_has ls 13 [(0, .ref b)] := hl
  refine va_new (ci := 8) (fs := [.null, .null, .null]) (C := RX8) (T := TX8) (N := 3) hx hb hts0 (by decide +kernel) tyX8 tyX8_ok hown (hts0 (.classLink RL 13 RX8) (by decide +kernel)) (hts0 (.instantiable RX8 3) (by decide +kernel)) (hts0 (.initialized RX8) (by decide +kernel)) hK hP hD hS hA rfl (fun j hj => by rcases (show j = 0 ∨ j = 1 ∨ j = 2 by omega) with rfl | rfl | rfl <;> rfl) (Nat.le_of_ble_eq_true rfl) (Nat.le_of_ble_eq_true rfl) dL_law_0 (fun q8 H hP hD hS => ?_)
  have hP : gP Γ ([(q8, .inr (8, [.null, .null, .null]))] ++ []) H := hP
  have hD : va_D (fun q : Nat => s.heap.size ≤ q) ([(q8, .inr (8, [.null, .null, .null]))] ++ []) := hD
  refine lv_dup hx hb dL_law_3 rfl ?_
  refine aIvG (As := []) (rest := [.ref q8]) (wr := []) (m_X8_init l Γ _ q8) hN S k_X8_init gL_law_X8_init (hts0 (.initialized RX8) (by decide +kernel)) (hts0 (.methodLink RL 80 yX8_init) (by decide +kernel)) (hts0 (.instanceMethod yX8_init) (by decide +kernel)) rfl ⟨Nat.le_of_ble_eq_true rfl, Nat.le_of_ble_eq_true rfl⟩ hK hP hD hS hA rfl hl.1 (Nat.le_of_ble_eq_true rfl) rfl dL_law_4 ⟨Nat.le_of_ble_eq_true rfl, Nat.le_of_ble_eq_true rfl⟩ (fun u H locs hu hP hD hS => ?_)
  obtain ⟨a, b9, rf⟩ := u
  obtain ⟨hq, hrf⟩ := hu
  have hq : a 34 = q8 := hq
  have hrf : ∀ i, i < 6 → rf i = some (b9 i 0) := hrf
  have hP5 : gP Γ (wXo Γ a b9 rf inF inZ (fun _ => inF) (fun _ => inZ)) H := gP_l hP
  have hD5 : va_D (fun q : Nat => s.heap.size ≤ q) (wXo Γ a b9 rf inF inZ (fun _ => inF) (fun _ => inZ)) := gD_l hD
  have hS5 := hS
  subst hq
  refine lv_astore_n (lv' := [(1, .ref (a 34)), (0, .ref b)]) hx hb dL_law_7 rfl hl (by decide) rfl (fun ls hl => ?_)
  refine lv_iconst (v := nI 0) hx hb dL_law_8 (by decide) ?_
  refine lv_istore_n (lv' := [(2, .int (nI 0)), (1, .ref (a 34)), (0, .ref b)]) hx hb dL_law_9 rfl hl (by decide) rfl (fun ls hl => ?_)
  refine W.widen (k := 1000) (n := 10000) (Nat.le_of_ble_eq_true rfl) (Nat.le_of_ble_eq_true rfl) ?_
  exact lw_loop C0 hfl hL hK hE hrf (40 + 1) 0 1000 10000 (by omega) (by omega) (by omega) (by omega) H _ ⟨inF, inZ, fun _ => inF, fun _ => inZ, sig0, 0, fun _ => sig0, 0, fun _ => 0, sig0_X, sig0_L, hP5, hD5, hS5⟩ ls (lv_sub hl [2, 1, 0] rfl)
set_option maxHeartbeats 4000000 in
theorem lw_walk (l : Launch) (hflags : l.flags = flags0) (b : Addr) (xs : List Int32) : MetFree l x (headSpec (Jvm.Cond.code x code maxLocals ret :: tables_1) room_1) (lw_P b xs) (fun _ _ _ _ _ => True) lw_Q := by
  refine MetFree.of_bodyS (code := code) (maxLocals := maxLocals) (ret := ret) (by decide) ?_ ?_
  · intro args s m h hn
    obtain ⟨meth, c, h1, h2, h3, h4, h5, h6, -, -⟩ := Cond.code_spec hn (atoms_spec (ws := Jvm.Cond.code x code maxLocals ret :: tables_1) h _ List.mem_cons_self)
    exact ⟨meth, c, h1, h2, h3, h4, h5, h6⟩
  · intro p e s m args below meth c s₁ B hml0 hP _
    obtain ⟨rfl, hx, hbd, hgv⟩ := hP
    obtain ⟨scr, harrAt, hlist, hof, hsmall⟩ := hx
    obtain ⟨hcb, hkn, -, -⟩ := State.arrayAt?_spec harrAt
    have hown : s.vm.findClass R_law = some m.cls := findClass_of_methodNamed B.named
    have hts0 : ∀ c ∈ (Jvm.Cond.code x code maxLocals ret :: tables_1), c.before #[Value.ref b] s = true := atoms_spec (ws := Jvm.Cond.code x code maxLocals ret :: tables_1) B.pre
    have hts : ∀ w ∈ lw_tbl, w.before #[Value.ref b] s = true := k2_hts_sels lw_privs (fun w hw => hts0 w (List.mem_cons_of_mem _ hw)) lw_privs_ok
    have hml : c.maxLocals = 13 := B.maxLocals_eq (hts0 _ List.mem_cons_self)
    have X₀ : Stand p l e room_1 s m #[Value.ref b] below meth c s₁ [] 0 0 := Stand.of_body B
    have hh0 : s₁.heap = s.heap := by rw [B.state]; rfl
    have hsz : scr.slots.size = xs.length := by rw [← Array.length_toList, hlist, List.length_map]
    have hval : ∀ j : Nat, j < xs.length → scr.slots[j]? = some (.int (xs.getD j 0)) := fun j hj => by
      rw [← Array.getElem?_toList, hlist]
      simp [hj]
    have hbl : b < s.heap.size := (Array.getElem?_eq_some_iff.mp hcb).1
    have hX : va_X b xs.length (fun j => xs.getD j 0) s s.heap := ⟨scr, hcb, hof, hkn, hsz, hval⟩
    have K : W p l e room_1 s m #[Value.ref b] below meth c s₁.heap [] 0 0 (lw_Z below #[Value.ref b] s) (entryFrame m ([Value.ref b] : List Value).toArray 13) := by
      rw [hh0]
      exact whole_start l hflags hbd ⟨B.exec, B.bytes, B.returns, hml, hown, hts, hX, hbl, B.notSynchronized, hgv⟩
    obtain ⟨t, a1, o, b1, b2, b3⟩ := K s₁ rfl X₀
    exact ⟨t, o, a1, b1, b2, b3⟩
theorem lw_pre_spec {args : Array Value} {s : State} (h : (Jvm.Cond.and given_1 narrow_1).before args s = true) (hr : rest_1_c.before args s = true) : ∃ (b : Addr) (xs : List Int32), lw_P b xs args s := by
  have hs := flat_of_before _ h
  have hq := flat_of_before _ hr
  have hc : (Cond.count 1).before args s = true := hs _ (by decide +kernel)
  have harr : (Cond.arrayOf (.arg 0) .int).before args s = true := hs _ (by decide +kernel)
  have hle : (Cond.le (.length (.arg 0)) (.int 260)).before args s = true := hs _ (by decide +kernel)
  have hlen : (Cond.isInt (.length (.arg 0))).before args s = true := hq _ (by decide +kernel)
  have hall : (Cond.all (.arg 0) (.isInt (.elem (.arg 0) (.index 0)))).before args s = true := hq _ (by decide +kernel)
  obtain ⟨b, xs, hb, hx⟩ := State.ints_of_pre rfl harr hlen hall
  have hsm : xs.length < 2 ^ 31 := hx.choose_spec.2.2.2
  have hev : (Term.length (.arg 0)).eval args s none [] s = some (.int xs.length.toInt32) := hx.length_eval hb
  have hv := Cond.le_ints hev (show (Term.int 260).eval args s none [] s = some (.int 260) from rfl)
  have hd : xs.length.toInt32 ≤ 260 := by
    simpa [Cond.before, Cond.holds, hv] using hle
  have hN : xs.length ≤ 260 := (Int32.ofNat_le_ofNat hsm (by decide)).mp (show Int32.ofNat xs.length ≤ Int32.ofNat 260 from hd)
  exact ⟨b, xs, Cond.one_arg hc (show args[0]? = some (.ref b) from hb), hx, hN, h⟩
theorem lw_comes (l : Launch) (hflags : l.flags = flags0) : Comes l x (Jvm.Cond.code x code maxLocals ret :: tables_1) room_1 (fun tb e args s => Calls_1 tb e args s ∧ rest_1 tb e args s ∧ Pre_1 tb e args s)
    (fun _ _ args s o t => lw_Q args s o t) := by
  intro p e ha hc hk s m args below hf hfit hheap happ hpre
  obtain ⟨b, xs, hP⟩ := lw_pre_spec hpre.2.2 hpre.2.1
  obtain ⟨k, o, h1, h2, h3, hQ⟩ := lw_walk l hflags b xs p e ha hc hk s m args below hf ((Spec.applies_iff_loose hf).mp happ).1 hP trivial
  exact ⟨k, o, h1, h2, h3, hQ⟩
theorem lw_frame {s t : State} {o : Outcome} {args : Array Value} (h : State.butDraws s t lw_cs (fun t1 => Framed s o t1 [] 709544 6973067)) :
    State.butDraws s t [Jvm.Choice.named "NaN.bits"] (fun t1 => Framed s o t1 (fieldLocs frame_1_writes args s ++ arrayLocs frame_1_arrays args s ++ staticLocs frame_1_statics s) 709544 6973067) := h
theorem lw_limb (L : Cond) (hL : ∀ (args : Array Value) (s t : State), L.after args s (.returned (some (.int 1))) t = true) :
    ArmFor flags0 classFile x code maxLocals ret World_1 tables_1 room_1 Calls_1 rest_1 Pre_1
      (fun tb e a s o t => postC L tb e a s o t ∧ State.butDraws s t [Jvm.Choice.named "NaN.bits"] (fun t1 => Framed s o t1 (fieldLocs frame_1_writes a s ++ arrayLocs frame_1_arrays a s ++ staticLocs frame_1_statics s) 709544 6973067)) := by
  intro l hflags _ _ p e ha hc hk s m args below hf hfit hheap happ hpre
  obtain ⟨k, o, h1, h2, h3, rfl, hF⟩ := lw_comes l hflags p e ha hc hk s m args below hf hfit hheap happ hpre
  exact ⟨k, _, h1, h2, h3, hL args s _, lw_frame hF⟩
theorem i_vc : Claimed_1_1 ∧ Claimed_1_2 := ⟨lw_limb limb_1_1 (fun args s t => by simp [limb_1_1, Cond.after, Cond.holds, Cond.value]), lw_limb limb_1_2 (fun args s t => Cond.after_iff.mpr (by
  first | (rw [show limb_1_2 = Cond.eq .result (.int 1) from rfl, Cond.eq_ints (x := 1) (y := 1) rfl rfl]; simp; done) | (simp [limb_1_2, Cond.value, Term.eval]; done)))⟩
