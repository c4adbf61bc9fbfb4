/-! The law's helpers: calls over the whole object that are never refused. -/
abbrev MEl (l : Launch) (y : MethodName) (ws : List Cond) (rm : Room) (Γ : Gm) (sz : Nat) (w : va_W) (av : List Value) (post : Int64 → Prop) (px : String → Prop) (mc ms : Nat) : Prop :=
  vx_Met l y ws rm (va_Pc av (wsR Γ sz w)) (va_Ql (S := Unit) (fun r _ => post r) (fun _ _ => True) (fun _ => False)) (xX sz px) mc ms (fun q => sz ≤ q)
theorem exc0 {es : List String} {E : String} {c : Nat} (h : c = 0) : ¬ exc es E c := fun ⟨k, hk, _⟩ => by omega
section LW
variable {p : Program} {l : Launch} {e : Env} {R : Room} {s : State} {m : MethodId} {args : Array Value} {below : List Frame} {meth : Method} {c : Code} {H : Heap} {locs : List Loc} {cells slots : Nat} {Q : State → Prop}
variable {Ts wy wy' : List Cond} {cc bytes : ByteArray} {nL maxL index n pc : Nat} {own C : String} {y : MethodName} {ret : Option FieldType} {rm : Room} {b : Nat} {As rest st : List Value} {ls : Array Slot} {Γ : Gm} {ws wc wr : va_W}
variable {mc ms : Nat} {A0 : Nat → Prop} {S0 : Type}
/-- a look, over the whole object -/
theorem lkV {post : Int32 → Prop} {px : String → Prop} {v : Int32} (hM : vx_Met l y wy rm (va_Pc (.ref b :: As) (wsR Γ H.size ws)) (va_Qi (S := Unit) (fun r _ => post r) (fun _ _ => True) (fun _ => False)) (xX H.size px) mc ms (fun q => H.size ≤ q)) (hnx : ∀ E, ¬ px E) (hv : ∀ r, post r → r = v) (hE : gE A0 s)
    (S : CallFix p m c cc nL s args Ts own) (k : Cal y wy rm bytes maxL ret n mc ms) (hT : GoodIn Ts (wsV own index C y wy)) (hC : y.cls = C) (hR : rm.frames + 1 ≤ R.frames ∧ 8 + (maxL + 11) + rm.locals ≤ R.locals)
    (hK : gK Γ s) (hP : gP Γ ws H) (hS : va_S A0 s.heap H locs) (hA : ∀ q, s.heap.size ≤ q → A0 q)
    (q0 : Nat) {ci : Nat} {q : vw_C} {fs : List Value} (hc : vwCl[ci]? = some q) (he : ws[q0]? = some (b, .inr (ci, fs))) (hq : q.1 = C) (hn : As.length = n) (hl : ls.size = nL) (hroom : (rest.map fun v => v.category).sum ≤ 8)
    (hst : st = As.reverse ++ .ref b :: rest) (hdg : decode cc pc = .ok (.invokevirtual index, 3)) (hce : cells + mc ≤ R.cells ∧ slots + ms ≤ R.slots)
    (kk : ∀ (H1 : Heap) (locs1 : List Loc), gP Γ ws H1 → va_S A0 s.heap H1 locs1 → (∀ q : Nat, q < H.size → H1[q]? = H[q]?) → W p l e R s m args below meth c H1 locs1 (cells + mc) (slots + ms) Q (F0 m (pc + 3) ls (.int v :: rest))) : W p l e R s m args below meth c H locs cells slots Q (F0 m pc ls st) := by
  subst hst
  subst hq
  have hF : ∀ q, H.size ≤ q → A0 q := fun q h => hA q (Nat.le_trans hS.1 h)
  refine vx_calli (vx_runV S hM (k.V S.2.2.2.2 hT hC hR) ⟨wsR_blind, va_recv hK hP hc he, fun U hU hW => ⟨rfl, by rw [hU], by rw [hU]; exact hP, va_K.moved hW.alike hK, gE_down hE rfl hS hF hU hW⟩⟩ rfl hn hl rfl (lv_room hroom) hdg hce) hS (fun q _ h => h.elim) hF (fun q h1 h2 => absurd h1 (Nat.not_lt.mpr h2)) ?_ ?_
  · intro E ce q9 u t H1 locs1 ht hvm hp hB
    exact absurd hB (hnx E)
  · intro r u t H1 locs1 ht hvm hp hB hz1 hk1 hS1
    have hk9 : ∀ q : Nat, q < H.size → H1[q]? = H[q]? := fun q hq => hk1 q hq (fun h => h)
    obtain rfl := hv r hp
    exact kk H1 locs1 (hP.kept (fun k q hk => hk9 q.1 (hP k q hk).lt)) hS1 hk9
/-- a reader that answers a double, over the whole object -/
theorem lkD {post : UInt64 → Prop} (hM : Met l y wy rm (va_Pc (.ref b :: As) (rd Γ ws)) (vp_Sd post) 0 0 (fun _ => False)) (S : CallFix p m c cc nL s args Ts own) (k : Cal y wy rm bytes maxL ret n 0 0) (hT : GoodIn Ts (wsV own index C y wy)) (hC : y.cls = C) (hR : rm.frames + 1 ≤ R.frames ∧ 8 + (maxL + 11) + rm.locals ≤ R.locals)
    (hK : gK Γ s) (hP : gP Γ ws H) (q0 : Nat) {ci : Nat} {q : vw_C} {fs : List Value} (hc : vwCl[ci]? = some q) (he : ws[q0]? = some (b, .inr (ci, fs))) (hq : q.1 = C) (hn : As.length = n) (hl : ls.size = nL) (hroom : (rest.map fun v => v.category).sum ≤ 8)
    (hst : st = As.reverse ++ .ref b :: rest) (hdg : decode cc pc = .ok (.invokevirtual index, 3)) (hce : cells ≤ R.cells ∧ slots ≤ R.slots)
    (kk : ∀ r : UInt64, post r → W p l e R s m args below meth c H locs cells slots Q (F0 m (pc + 3) ls (.double r :: rest))) : W p l e R s m args below meth c H locs cells slots Q (F0 m pc ls st) := by
  subst hst
  subst hq
  exact vp_callSd (W.runV S hM (k.V S.2.2.2.2 hT hC hR) ⟨rd_blind, va_recv hK hP hc he, fun U hU hW => ⟨rfl, by rw [hU]; exact hP, va_K.moved hW.alike hK⟩⟩ rfl hn hl rfl (lv_room hroom) hdg hce) kk
/-- static looks, over the whole object -/
theorem lkSi {post : Int32 → Prop} {px : String → Prop} {v : Int32} (hM : vx_Met l y wy rm (va_Pc As (wsR Γ H.size ws)) (va_Qi (S := Unit) (fun r _ => post r) (fun _ _ => True) (fun _ => False)) (xX H.size px) mc ms (fun q => H.size ≤ q)) (hnx : ∀ E, ¬ px E) (hv : ∀ r, post r → r = v) (hE : gE A0 s)
    (S : CallFix p m c cc nL s args Ts own) (k : Cal y wy rm bytes maxL ret n mc ms) (hT : GoodIn Ts (va_wsS own index y wy)) (hR : rm.frames + 1 ≤ R.frames ∧ 8 + (maxL + 11) + rm.locals ≤ R.locals)
    (hK : gK Γ s) (hP : gP Γ ws H) (hS : va_S A0 s.heap H locs) (hA : ∀ q, s.heap.size ≤ q → A0 q) (hn : As.length = n) (hl : ls.size = nL) (hroom : (rest.map fun v => v.category).sum ≤ 8)
    (hst : st = As.reverse ++ rest) (hdg : decode cc pc = .ok (.invokestatic index, 3)) (hce : cells + mc ≤ R.cells ∧ slots + ms ≤ R.slots)
    (kk : ∀ (H1 : Heap) (locs1 : List Loc), gP Γ ws H1 → va_S A0 s.heap H1 locs1 → (∀ q : Nat, q < H.size → H1[q]? = H[q]?) → W p l e R s m args below meth c H1 locs1 (cells + mc) (slots + ms) Q (F0 m (pc + 3) ls (.int v :: rest))) : W p l e R s m args below meth c H locs cells slots Q (F0 m pc ls st) := by
  subst hst
  have hF : ∀ q, H.size ≤ q → A0 q := fun q h => hA q (Nat.le_trans hS.1 h)
  refine vx_calli (vx_runS S hM (k.S S.2.2.2.2 hT hR) ⟨wsR_blind, fun U hU hW => ⟨rfl, by rw [hU], by rw [hU]; exact hP, va_K.moved hW.alike hK, gE_down hE rfl hS hF hU hW⟩⟩ rfl hn hl rfl (lv_room hroom) hdg hce) hS (fun q _ h => h.elim) hF (fun q h1 h2 => absurd h1 (Nat.not_lt.mpr h2)) ?_ ?_
  · intro E ce q9 u t H1 locs1 ht hvm hp hB
    exact absurd hB (hnx E)
  · intro r u t H1 locs1 ht hvm hp hB hz1 hk1 hS1
    have hk9 : ∀ q : Nat, q < H.size → H1[q]? = H[q]? := fun q hq => hk1 q hq (fun h => h)
    obtain rfl := hv r hp
    exact kk H1 locs1 (hP.kept (fun k q hk => hk9 q.1 (hP k q hk).lt)) hS1 hk9
theorem lkSl {post : Int64 → Prop} {px : String → Prop} {v : Int64} (hM : vx_Met l y wy rm (va_Pc As (wsR Γ H.size ws)) (va_Ql (S := Unit) (fun r _ => post r) (fun _ _ => True) (fun _ => False)) (xX H.size px) mc ms (fun q => H.size ≤ q)) (hnx : ∀ E, ¬ px E) (hv : ∀ r, post r → r = v) (hE : gE A0 s)
    (S : CallFix p m c cc nL s args Ts own) (k : Cal y wy rm bytes maxL ret n mc ms) (hT : GoodIn Ts (va_wsS own index y wy)) (hR : rm.frames + 1 ≤ R.frames ∧ 8 + (maxL + 11) + rm.locals ≤ R.locals)
    (hK : gK Γ s) (hP : gP Γ ws H) (hS : va_S A0 s.heap H locs) (hA : ∀ q, s.heap.size ≤ q → A0 q) (hn : As.length = n) (hl : ls.size = nL) (hroom : (rest.map fun v => v.category).sum ≤ 8)
    (hst : st = As.reverse ++ rest) (hdg : decode cc pc = .ok (.invokestatic index, 3)) (hce : cells + mc ≤ R.cells ∧ slots + ms ≤ R.slots)
    (kk : ∀ (H1 : Heap) (locs1 : List Loc), gP Γ ws H1 → va_S A0 s.heap H1 locs1 → (∀ q : Nat, q < H.size → H1[q]? = H[q]?) → W p l e R s m args below meth c H1 locs1 (cells + mc) (slots + ms) Q (F0 m (pc + 3) ls (.long v :: rest))) : W p l e R s m args below meth c H locs cells slots Q (F0 m pc ls st) := by
  subst hst
  have hF : ∀ q, H.size ≤ q → A0 q := fun q h => hA q (Nat.le_trans hS.1 h)
  refine vx_calll (vx_runS S hM (k.S S.2.2.2.2 hT hR) ⟨wsR_blind, fun U hU hW => ⟨rfl, by rw [hU], by rw [hU]; exact hP, va_K.moved hW.alike hK, gE_down hE rfl hS hF hU hW⟩⟩ rfl hn hl rfl (lv_room hroom) hdg hce) hS (fun q _ h => h.elim) hF (fun q h1 h2 => absurd h1 (Nat.not_lt.mpr h2)) ?_ ?_
  · intro E ce q9 u t H1 locs1 ht hvm hp hB
    exact absurd hB (hnx E)
  · intro r u t H1 locs1 ht hvm hp hB hz1 hk1 hS1
    have hk9 : ∀ q : Nat, q < H.size → H1[q]? = H[q]? := fun q hq => hk1 q hq (fun h => h)
    obtain rfl := hv r hp
    exact kk H1 locs1 (hP.kept (fun k q hk => hk9 q.1 (hP k q hk).lt)) hS1 hk9
/-- a call that writes, over the whole object -/
theorem acV {post : Int32 → S0 → Prop} {w1 : S0 → va_W} {px : String → Prop} (hM : vx_Met l y wy rm (va_Pc (.ref b :: As) (wsE Γ H.size ws)) (va_Qi post (fun u t => wd Γ (va_A ws H.size) (w1 u) t) (va_A ws H.size)) (xX H.size px) mc ms (va_A ws H.size)) (hnx : ∀ E, ¬ px E) (hE : gE A0 s)
    (S : CallFix p m c cc nL s args Ts own) (k : Cal y wy rm bytes maxL ret n mc ms) (hT : GoodIn Ts (wsV own index C y wy)) (hC : y.cls = C) (hR : rm.frames + 1 ≤ R.frames ∧ 8 + (maxL + 11) + rm.locals ≤ R.locals)
    (hK : gK Γ s) (hP : gP Γ ws H) (hD : va_D A0 ws) (hS : va_S A0 s.heap H locs) (hA : ∀ q, s.heap.size ≤ q → A0 q)
    (q0 : Nat) {ci : Nat} {q : vw_C} {fs : List Value} (hc : vwCl[ci]? = some q) (he : ws[q0]? = some (b, .inr (ci, fs))) (hq : q.1 = C) (hn : As.length = n) (hl : ls.size = nL) (hroom : (rest.map fun v => v.category).sum ≤ 8)
    (hst : st = As.reverse ++ .ref b :: rest) (hdg : decode cc pc = .ok (.invokevirtual index, 3)) (hce : cells + mc ≤ R.cells ∧ slots + ms ≤ R.slots)
    (kk : ∀ (r : Int32) (u : S0) (H1 : Heap) (locs1 : List Loc), post r u → gP Γ (w1 u) H1 → va_D A0 (w1 u) → va_S A0 s.heap H1 locs1 → W p l e R s m args below meth c H1 locs1 (cells + mc) (slots + ms) Q (F0 m (pc + 3) ls (.int r :: rest))) : W p l e R s m args below meth c H locs cells slots Q (F0 m pc ls st) := by
  have hP0 : gP Γ (ws ++ []) H := by rw [List.append_nil]; exact hP
  have hD0 : va_D A0 (ws ++ []) := by rw [List.append_nil]; exact hD
  refine xWi (wr := []) hM hE S k hT hC hR hK hP0 hD0 hS hA q0 hc he hq hn hl hroom hst hdg hce (fun E _ _ _ _ hp => absurd hp (hnx E)) (fun r u H1 locs1 hr hP1 hD1 hS1 => ?_)
  rw [List.append_nil] at hP1 hD1
  exact kk r u H1 locs1 hr hP1 hD1 hS1
/-- a static one -/
theorem acS {post : Int32 → S0 → Prop} {w1 : S0 → va_W} {px : String → Prop} (hM : vx_Met l y wy rm (va_Pc As (wsE Γ H.size ws)) (va_Qi post (fun u t => wd Γ (va_A ws H.size) (w1 u) t) (va_A ws H.size)) (xX H.size px) mc ms (va_A ws H.size)) (hnx : ∀ E, ¬ px E) (hE : gE A0 s)
    (S : CallFix p m c cc nL s args Ts own) (k : Cal y wy rm bytes maxL ret n mc ms) (hT : GoodIn Ts (va_wsS own index y wy)) (hR : rm.frames + 1 ≤ R.frames ∧ 8 + (maxL + 11) + rm.locals ≤ R.locals)
    (hK : gK Γ s) (hP : gP Γ ws H) (hD : va_D A0 ws) (hS : va_S A0 s.heap H locs) (hA : ∀ q, s.heap.size ≤ q → A0 q) (hn : As.length = n) (hl : ls.size = nL) (hroom : (rest.map fun v => v.category).sum ≤ 8)
    (hst : st = As.reverse ++ rest) (hdg : decode cc pc = .ok (.invokestatic index, 3)) (hce : cells + mc ≤ R.cells ∧ slots + ms ≤ R.slots)
    (kk : ∀ (r : Int32) (u : S0) (H1 : Heap) (locs1 : List Loc), post r u → gP Γ (w1 u) H1 → va_D A0 (w1 u) → va_S A0 s.heap H1 locs1 → W p l e R s m args below meth c H1 locs1 (cells + mc) (slots + ms) Q (F0 m (pc + 3) ls (.int r :: rest))) : W p l e R s m args below meth c H locs cells slots Q (F0 m pc ls st) := by
  subst hst
  have hP0 : gP Γ (ws ++ []) H := by rw [List.append_nil]; exact hP
  have hD0 : va_D A0 (ws ++ []) := by rw [List.append_nil]; exact hD
  have hF := gF hD0 hS hA
  refine vx_calli (vx_runS S hM (k.S S.2.2.2.2 hT hR) ⟨wsE_blind, fun U hU hW => ⟨rfl, ⟨by rw [hU], by rw [hU]; exact hP, va_K.moved hW.alike hK, hD.weaken (fun _ _ _ _ => trivial)⟩, gE_down hE rfl hS hF hU hW⟩⟩ rfl hn hl rfl (lv_room hroom) hdg hce) hS (fun q _ h => hF q h) hF (fun q h1 h2 => absurd h1 (Nat.not_lt.mpr h2)) ?_ ?_
  · intro E ce q9 u t H1 locs1 ht hvm hp hB
    exact absurd hB (hnx E)
  · intro r u t H1 locs1 ht hvm hp hB hz1 hk1 hS1
    obtain ⟨hP1, hK1, hD1⟩ := hB
    rw [ht] at hP1
    obtain ⟨hP3, hD3⟩ := app_join hP0 hD0 hk1 hF hP1 hD1
    rw [List.append_nil] at hP3 hD3
    exact kk r u H1 locs1 hp hP3 hD3 hS1
/-- x == y ? 1 : 0, as it is compiled -/
theorem bJne {P : Bool} {x y : Int32} {pc1 pc2 pc3 pc4 : Nat} {o1 o2 : Int} (hx : p.tables.exec = Jvm.exec) (hb : c.code = cc) (d0 : decode cc pc = .ok (.if_icmp .ne o1, 3)) (t0 : (pc : Int) + o1 = pc3) (d1 : decode cc (pc + 3) = .ok (.iconst 1, 1)) (d2 : decode cc (pc + 3 + 1) = .ok (.goto o2, 3)) (t2 : ((pc + 3 + 1 : Nat) : Int) + o2 = pc4) (d3 : decode cc pc3 = .ok (.iconst 0, 1)) (e4 : pc3 + 1 = pc4) (hP : x = y ↔ P = true)
    (kk : W p l e R s m args below meth c H locs cells slots Q (F0 m pc4 ls (.int (bI P) :: rest))) : W p l e R s m args below meth c H locs cells slots Q (F0 m pc ls (.int y :: .int x :: rest)) := by
  refine lv_icmp_ne (tgt := pc3) hx hb d0 t0 (fun h => ?_) (fun h => ?_)
  · refine lv_iconst (v := nI 0) hx hb d3 (by decide) ?_
    rw [e4]
    rw [show P = false from Bool.eq_false_iff.mpr (fun q => h (hP.mpr q))] at kk
    exact kk
  · have h : x = y := by first | exact h | exact Classical.not_not.mp h
    refine lv_iconst (v := nI 1) hx hb d1 (by decide) ?_
    refine lv_goto (tgt := pc4) hx hb d2 t2 ?_
    rw [hP.mp h] at kk
    exact kk
/-- x == 0 ? 1 : 0, as it is compiled -/
theorem bJnz {P : Bool} {x : Int32} {pc3 pc4 : Nat} {o1 o2 : Int} (hx : p.tables.exec = Jvm.exec) (hb : c.code = cc) (d0 : decode cc pc = .ok (.ifCond .ne o1, 3)) (t0 : (pc : Int) + o1 = pc3) (d1 : decode cc (pc + 3) = .ok (.iconst 1, 1)) (d2 : decode cc (pc + 3 + 1) = .ok (.goto o2, 3)) (t2 : ((pc + 3 + 1 : Nat) : Int) + o2 = pc4) (d3 : decode cc pc3 = .ok (.iconst 0, 1)) (e4 : pc3 + 1 = pc4) (hP : x = 0 ↔ P = true)
    (kk : W p l e R s m args below meth c H locs cells slots Q (F0 m pc4 ls (.int (bI P) :: rest))) : W p l e R s m args below meth c H locs cells slots Q (F0 m pc ls (.int x :: rest)) := by
  refine lv_if_ne (tgt := pc3) hx hb d0 t0 (fun h => ?_) (fun h => ?_)
  · refine lv_iconst (v := nI 0) hx hb d3 (by decide) ?_
    rw [e4]
    rw [show P = false from Bool.eq_false_iff.mpr (fun q => h (hP.mpr q))] at kk
    exact kk
  · have h : x = 0 := by first | exact h | exact Classical.not_not.mp h
    refine lv_iconst (v := nI 1) hx hb d1 (by decide) ?_
    refine lv_goto (tgt := pc4) hx hb d2 t2 ?_
    rw [hP.mp h] at kk
    exact kk
/-- x == 0 ? 1 : 60, as it is compiled -/
theorem bJ60 {x : Int32} {pc3 pc4 : Nat} {o1 o2 : Int} (hx : p.tables.exec = Jvm.exec) (hb : c.code = cc) (d0 : decode cc pc = .ok (.ifCond .ne o1, 3)) (t0 : (pc : Int) + o1 = pc3) (d1 : decode cc (pc + 3) = .ok (.iconst 1, 1)) (d2 : decode cc (pc + 3 + 1) = .ok (.goto o2, 3)) (t2 : ((pc + 3 + 1 : Nat) : Int) + o2 = pc4) (d3 : decode cc pc3 = .ok (.bipush 60, 2)) (e4 : pc3 + 2 = pc4)
    (kk : W p l e R s m args below meth c H locs cells slots Q (F0 m pc4 ls (.int (nI (if x = 0 then 1 else 60)) :: rest))) : W p l e R s m args below meth c H locs cells slots Q (F0 m pc ls (.int x :: rest)) := by
  refine lv_if_ne (tgt := pc3) hx hb d0 t0 (fun h => ?_) (fun h => ?_)
  · refine lv_bipush (v := nI 60) hx hb d3 (by decide) ?_
    rw [e4]
    rw [if_neg h] at kk
    exact kk
  · refine lv_iconst (v := nI 1) hx hb d1 (by decide) ?_
    refine lv_goto (tgt := pc4) hx hb d2 t2 ?_
    rw [if_pos h] at kk
    exact kk
end LW
