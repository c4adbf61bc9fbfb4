/-! The law's helpers: a call of the class inside a catch. -/
abbrev oC (Γ : Gm) (og : Nat → Int64) : va_E := .inl (Γ.2.2.2, 1, .inr (.inl og))
abbrev WtL : Type := WtX × (Nat → Int64)
/-- a helper's end: its code, what it has laid down, the object behind -/
def HO (k : Nat) (r val : Int32) (A B : Prop) (ov : Int64) : Prop := r = nI k ∧ (k = 0 → ov = val.toInt64 ∧ A) ∧ (¬ k = 0 → B)
theorem HO.bad {K k : Nat} {val : Int32} {A B : Prop} {ov : Int64} (hK : K = k) (hk : ¬ k = 0) (hB : B) : HO K (nI k) val A B ov := ⟨by rw [hK], fun h => absurd (hK.symm.trans h) hk, fun _ => hB⟩
theorem HO.ok {K : Nat} {r val : Int32} {A B : Prop} {ov : Int64} (hK : K = 0) (hr : r = nI 0) (ho : ov = val.toInt64) (hA : A) : HO K r val A B ov := ⟨by rw [hr, hK], fun _ => ⟨ho, hA⟩, fun h => absurd hK h⟩
theorem gP_sw {Γ : Gm} {w1 w2 : va_W} {H : Heap} (h : gP Γ (w1 ++ w2) H) : gP Γ (w2 ++ w1) H := gP_perm h List.perm_append_comm
theorem gD_sw {A : Nat → Prop} {w1 w2 : va_W} (h : va_D A (w1 ++ w2)) : va_D A (w2 ++ w1) := gD_perm h List.perm_append_comm
theorem oC_0 (og : Nat → Int64) (x : Int64) : vp_updL og 0 x 0 = x := if_pos rfl
section HB
variable {l : Launch} {y : MethodName} {ws ws' : List Cond} {rm : Room} {Γ : Gm} {w : va_W} {av : List Value} {cc : ByteArray} {maxL : Nat} {ret : Option FieldType} {own : String} {Qc : Array Value → State → Outcome → State → Prop} {XC : String → State → State → Prop}
theorem mH {sz mc ms : Nat} {free : Nat → Prop} {hh : List (Nat × Nat × Nat × Nat)} (hy : plainName y.cls = true) (hw : ws = Cond.codeWith y cc maxL ret hh :: ws') (hcls : y.cls = own) (hlen : (lg_sl av).length ≤ maxL)
    (body : ∀ (p : Program) (e : Env) (s : State) (m : MethodId) (args : Array Value) (below : List Frame) (meth : Method) (c : Code), CallFix p m c cc maxL s args ws own → meth.sig.returnType = ret → meth.locks = false → c.exceptionTable.toList = tableOf hh → s.heap.size = sz → gE (va_A w sz) s → gK Γ s → gP Γ w s.heap → va_D (va_A w sz) w →
      (∀ q : Nat, s.heap.size ≤ q → va_A w sz q) → va_S (va_A w sz) s.heap s.heap [] →
      ∀ ls : Array Slot, lv_has ls maxL (lv_args 0 av) → W p l e rm s m args below meth c s.heap [] 0 0 (vx_MQ below Qc XC args s mc ms free) (F0 m 0 ls [])) :
    vx_Met l y ws rm (va_Pc av (wsE Γ sz w)) Qc XC mc ms free := by
  refine vx_ofWH (cc := cc) (maxL := maxL) (ret := ret) (hh := hh) hy hw ?_
  intro p e s m args below meth c s₁ B hml hv
  have htab : c.exceptionTable.toList = tableOf hh := vx_table (x := y) B (atoms_spec (ws := ws) B.pre _ (by rw [hw]; exact List.mem_cons_self))
  obtain ⟨rfl, ⟨hsz, hP, hK, hD0⟩, hE⟩ := hv
  subst hcls
  have hl := lv_entry av (n := maxL) hlen
  rw [lg_entry_eq]
  exact body p e s m _ below meth c ⟨B.exec, B.bytes, hml, findClass_of_methodNamed B.named, atoms_spec (ws := ws) B.pre⟩ B.returns B.notSynchronized htab hsz hE hK hP hD0.self (fun q h => Or.inr (by rw [← hsz]; exact h)) va_S.rf _ hl
end HB
section HL
variable {p : Program} {l : Launch} {e : Env} {R : Room} {s : State} {m : MethodId} {args : Array Value} {below : List Frame} {meth : Method} {c : Code} {H : Heap} {locs : List Loc} {cells slots : Nat} {Q : State → Prop}
variable {Ts wy wy' : List Cond} {cc bytes : ByteArray} {nL maxL index n pc : Nat} {own C : String} {y : MethodName} {ret : Option FieldType} {rm : Room} {b : Nat} {As rest st : List Value} {ls : Array Slot} {Γ : Gm} {ws wc wr : va_W}
variable {mc ms : Nat} {A0 : Nat → Prop} {S0 : Type}
/-- a look that may throw, called over the first part of a world -/
theorem eWi {post : Int32 → Prop} {px : String → Prop} (hM : vx_Met l y wy rm (va_Pc (.ref b :: As) (wsR Γ H.size wc)) (va_Qi (S := Unit) (fun r _ => post r) (fun _ _ => True) (fun _ => False)) (xX H.size px) mc ms (fun q => H.size ≤ q)) (hE : gE A0 s)
    (S : CallFix p m c cc nL s args Ts own) (k : Cal y wy rm bytes maxL ret n mc ms) (hT : GoodIn Ts (wsV own index C y wy)) (hC : y.cls = C) (hR : rm.frames + 1 ≤ R.frames ∧ 8 + (maxL + 11) + rm.locals ≤ R.locals)
    (hK : gK Γ s) (hP : gP Γ (wc ++ wr) H) (hS : va_S A0 s.heap H locs) (hA : ∀ q, s.heap.size ≤ q → A0 q)
    (q0 : Nat) {ci : Nat} {q : vw_C} {fs : List Value} (hc : vwCl[ci]? = some q) (he : wc[q0]? = some (b, .inr (ci, fs))) (hq : q.1 = C) (hn : As.length = n) (hl : ls.size = nL) (hroom : (rest.map fun v => v.category).sum ≤ 8)
    (hst : st = As.reverse ++ .ref b :: rest) (hdg : decode cc pc = .ok (.invokevirtual index, 3)) (hce : cells + mc ≤ R.cells ∧ slots + ms ≤ R.slots)
    (kx : ∀ (E : String) (ce : Cell) (q9 : Addr) (H1 : Heap) (locs1 : List Loc), px E → gP Γ (wc ++ wr) H1 → va_S A0 s.heap H1 locs1 → H1[q9]? = some ce → ce.vm = .none → s.vm.findClass E = some ce.cls → vx_W p l e R s m args below meth c H1 locs1 (cells + mc) (slots + ms) Q (F0 m pc ls rest) q9)
    (kk : ∀ (r : Int32) (H1 : Heap) (locs1 : List Loc), post r → gP Γ (wc ++ wr) H1 → va_S A0 s.heap H1 locs1 → W p l e R s m args below meth c H1 locs1 (cells + mc) (slots + ms) Q (F0 m (pc + 3) ls (.int r :: rest))) : W p l e R s m args below meth c H locs cells slots Q (F0 m pc ls st) := by
  subst hst
  subst hq
  have hP2 := gP_l hP
  have hF : ∀ q, H.size ≤ q → A0 q := fun q h => hA q (Nat.le_trans hS.1 h)
  refine vx_calli (vx_runV S hM (k.V S.2.2.2.2 hT hC hR) ⟨wsR_blind, va_recv hK hP2 hc he, fun U hU hW => ⟨rfl, by rw [hU], by rw [hU]; exact hP2, va_K.moved hW.alike hK, gE_down hE rfl hS hF hU hW⟩⟩ rfl hn hl rfl (lv_room hroom) hdg hce) hS (fun q _ h => h.elim) hF (fun q h1 h2 => absurd h1 (Nat.not_lt.mpr h2)) ?_ ?_
  · intro E ce q9 u t H1 locs1 ht hvm hp hB hz1 hk1 hS1 hce9 hv9 hcl9
    have hk9 : ∀ q : Nat, q < H.size → H1[q]? = H[q]? := fun q hq => hk1 q hq (Nat.not_le.mpr hq)
    exact kx E ce q9 H1 locs1 hB (hP.kept (fun k q hk => hk9 q.1 (hP k q hk).lt)) hS1 hce9 hv9 hcl9
  · intro r u t H1 locs1 ht hvm hp hB hz1 hk1 hS1
    have hk9 : ∀ q : Nat, q < H.size → H1[q]? = H[q]? := fun q hq => hk1 q hq (fun h => h)
    exact kk r H1 locs1 hp (hP.kept (fun k q hk => hk9 q.1 (hP k q hk).lt)) hS1
/-- what a helper is, to its caller -/
def CalH (y : MethodName) (wy : List Cond) (rm : Room) (bytes : ByteArray) (maxL : Nat) (ret : Option FieldType) (hh : List (Nat × Nat × Nat × Nat)) (n mc ms : Nat) : Prop :=
  (∃ wy', wy = Cond.codeWith y bytes maxL ret hh :: wy') ∧ rm.cells = mc ∧ rm.slots = ms ∧ (y.cls ≠ "java/lang/invoke/MethodHandle" ∧ y.cls ≠ "java/lang/invoke/VarHandle" ∧ (parseMethodDescriptor y.desc).map (fun d => d.parameters.length) = some n)
/-- a helper called, over the first part of a world -/
theorem hCi {hh : List (Nat × Nat × Nat × Nat)} {post : Int32 → S0 → Prop} {w1 : S0 → va_W} (hM : vx_Met l y wy rm (va_Pc As (wsE Γ H.size wc)) (va_Qi post (fun u t => wd Γ (va_A wc H.size) (w1 u) t) (va_A wc H.size)) (xX H.size (fun _ => False)) mc ms (va_A wc H.size)) (hE : gE A0 s)
    (S : CallFix p m c cc nL s args Ts own) (k : CalH y wy rm bytes maxL ret hh n mc ms) (hT : GoodIn Ts (va_wsS own index y wy)) (hR : rm.frames + 1 ≤ R.frames ∧ 8 + (maxL + 11) + rm.locals ≤ R.locals)
    (hK : gK Γ s) (hP : gP Γ (wc ++ wr) H) (hD : va_D A0 (wc ++ wr)) (hS : va_S A0 s.heap H locs) (hA : ∀ q, s.heap.size ≤ q → A0 q) (hn : As.length = n) (hl : ls.size = nL) (hroom : (rest.map fun v => v.category).sum ≤ 8)
    (hst : st = As.reverse ++ rest) (hdg : decode cc pc = .ok (.invokestatic index, 3)) (hce : cells + mc ≤ R.cells ∧ slots + ms ≤ R.slots)
    (kk : ∀ (r : Int32) (u : S0) (H1 : Heap) (locs1 : List Loc), post r u → gP Γ (w1 u ++ wr) H1 → va_D A0 (w1 u ++ wr) → va_S A0 s.heap H1 locs1 → W p l e R s m args below meth c H1 locs1 (cells + mc) (slots + ms) Q (F0 m (pc + 3) ls (.int r :: rest))) : W p l e R s m args below meth c H locs cells slots Q (F0 m pc ls st) := by
  subst hst
  obtain ⟨⟨w', hw⟩, hrc, hrs, hd⟩ := k
  have hP2 := gP_l hP
  have hF := gF hD hS hA
  refine vx_calli (vx_runSX S hM (vx_cwSW n S.2.2.2.2 hT hw hrc hrs hd hR) ⟨wsE_blind, fun U hU hW => ⟨rfl, ⟨by rw [hU], by rw [hU]; exact hP2, va_K.moved hW.alike hK, (gD_l hD).weaken (fun _ _ _ _ => trivial)⟩, gE_down hE rfl hS hF hU hW⟩⟩ rfl hn hl rfl (lv_room hroom) hdg hce) hS (fun q _ h => hF q h) hF (fun q h1 h2 => absurd h1 (Nat.not_lt.mpr h2)) ?_ ?_
  · intro E ce q9 u t H1 locs1 ht hvm hp hB
    exact absurd hB (fun h => h)
  · intro r u t H1 locs1 ht hvm hp hB hz1 hk1 hS1
    obtain ⟨hP1, hK1, hD1⟩ := hB
    rw [ht] at hP1
    obtain ⟨hP3, hD3⟩ := app_join hP hD hk1 hF hP1 hD1
    exact kk r u H1 locs1 hp hP3 hD3 hS1
/-- readers over the first part of a world -/
theorem rRi {post : Int32 → Prop} (hM : Met l y wy rm (va_Pc (.ref b :: As) (rd Γ wc)) (vp_Si post) 0 0 (fun _ => False)) (S : CallFix p m c cc nL s args Ts own) (k : Cal y wy rm bytes maxL ret n 0 0) (hT : GoodIn Ts (wsV own index C y wy)) (hC : y.cls = C) (hR : rm.frames + 1 ≤ R.frames ∧ 8 + (maxL + 11) + rm.locals ≤ R.locals)
    (hK : gK Γ s) (hP : gP Γ (wc ++ wr) H) (q0 : Nat) {ci : Nat} {q : vw_C} {fs : List Value} (hc : vwCl[ci]? = some q) (he : wc[q0]? = some (b, .inr (ci, fs))) (hq : q.1 = C) (hn : As.length = n) (hl : ls.size = nL) (hroom : (rest.map fun v => v.category).sum ≤ 8)
    (hst : st = As.reverse ++ .ref b :: rest) (hdg : decode cc pc = .ok (.invokevirtual index, 3)) (hce : cells ≤ R.cells ∧ slots ≤ R.slots)
    (kk : ∀ r : Int32, post r → W p l e R s m args below meth c H locs cells slots Q (F0 m (pc + 3) ls (.int r :: rest))) : W p l e R s m args below meth c H locs cells slots Q (F0 m pc ls st) := by
  subst hst
  subst hq
  have hP2 := gP_l hP
  exact vp_callSi (W.runV S hM (k.V S.2.2.2.2 hT hC hR) ⟨rd_blind, va_recv hK hP2 hc he, fun U hU hW => ⟨rfl, by rw [hU]; exact hP2, va_K.moved hW.alike hK⟩⟩ rfl hn hl rfl (lv_room hroom) hdg hce) kk
theorem rRl {post : Int64 → Prop} (hM : Met l y wy rm (va_Pc (.ref b :: As) (rd Γ wc)) (vp_Sl post) 0 0 (fun _ => False)) (S : CallFix p m c cc nL s args Ts own) (k : Cal y wy rm bytes maxL ret n 0 0) (hT : GoodIn Ts (wsV own index C y wy)) (hC : y.cls = C) (hR : rm.frames + 1 ≤ R.frames ∧ 8 + (maxL + 11) + rm.locals ≤ R.locals)
    (hK : gK Γ s) (hP : gP Γ (wc ++ wr) H) (q0 : Nat) {ci : Nat} {q : vw_C} {fs : List Value} (hc : vwCl[ci]? = some q) (he : wc[q0]? = some (b, .inr (ci, fs))) (hq : q.1 = C) (hn : As.length = n) (hl : ls.size = nL) (hroom : (rest.map fun v => v.category).sum ≤ 8)
    (hst : st = As.reverse ++ .ref b :: rest) (hdg : decode cc pc = .ok (.invokevirtual index, 3)) (hce : cells ≤ R.cells ∧ slots ≤ R.slots)
    (kk : ∀ r : Int64, post r → W p l e R s m args below meth c H locs cells slots Q (F0 m (pc + 3) ls (.long r :: rest))) : W p l e R s m args below meth c H locs cells slots Q (F0 m pc ls st) := by
  subst hst
  subst hq
  have hP2 := gP_l hP
  exact vp_callSl (W.runV S hM (k.V S.2.2.2.2 hT hC hR) ⟨rd_blind, va_recv hK hP2 hc he, fun U hU hW => ⟨rfl, by rw [hU]; exact hP2, va_K.moved hW.alike hK⟩⟩ rfl hn hl rfl (lv_room hroom) hdg hce) kk
theorem rRd {post : UInt64 → Prop} (hM : Met l y wy rm (va_Pc (.ref b :: As) (rd Γ wc)) (vp_Sd post) 0 0 (fun _ => False)) (S : CallFix p m c cc nL s args Ts own) (k : Cal y wy rm bytes maxL ret n 0 0) (hT : GoodIn Ts (wsV own index C y wy)) (hC : y.cls = C) (hR : rm.frames + 1 ≤ R.frames ∧ 8 + (maxL + 11) + rm.locals ≤ R.locals)
    (hK : gK Γ s) (hP : gP Γ (wc ++ wr) H) (q0 : Nat) {ci : Nat} {q : vw_C} {fs : List Value} (hc : vwCl[ci]? = some q) (he : wc[q0]? = some (b, .inr (ci, fs))) (hq : q.1 = C) (hn : As.length = n) (hl : ls.size = nL) (hroom : (rest.map fun v => v.category).sum ≤ 8)
    (hst : st = As.reverse ++ .ref b :: rest) (hdg : decode cc pc = .ok (.invokevirtual index, 3)) (hce : cells ≤ R.cells ∧ slots ≤ R.slots)
    (kk : ∀ r : UInt64, post r → W p l e R s m args below meth c H locs cells slots Q (F0 m (pc + 3) ls (.double r :: rest))) : W p l e R s m args below meth c H locs cells slots Q (F0 m pc ls st) := by
  subst hst
  subst hq
  have hP2 := gP_l hP
  exact vp_callSd (W.runV S hM (k.V S.2.2.2.2 hT hC hR) ⟨rd_blind, va_recv hK hP2 hc he, fun U hU hW => ⟨rfl, by rw [hU]; exact hP2, va_K.moved hW.alike hK⟩⟩ rfl hn hl rfl (lv_room hroom) hdg hce) kk
/-- writers that answer a long or a double, over the first part of a world -/
theorem aWl {post : Int64 → S0 → Prop} {w1 : S0 → va_W} {H0 : Heap} (hM : Met l y wy rm (va_Pc (.ref b :: As) (ws0 Γ H.size wc)) (va_Ql post (fun u t => wd Γ (va_A wc H.size) (w1 u) t) (va_A wc H.size)) mc ms (va_A wc H.size))
    (S : CallFix p m c cc nL s args Ts own) (k : Cal y wy rm bytes maxL ret n mc ms) (hT : GoodIn Ts (wsV own index C y wy)) (hC : y.cls = C) (hR : rm.frames + 1 ≤ R.frames ∧ 8 + (maxL + 11) + rm.locals ≤ R.locals)
    (hK : gK Γ s) (hP : gP Γ (wc ++ wr) H) (hD : va_D A0 (wc ++ wr)) (hS : va_S A0 H0 H locs) (hA : ∀ q, H0.size ≤ q → A0 q)
    (q0 : Nat) {ci : Nat} {q : vw_C} {fs : List Value} (hc : vwCl[ci]? = some q) (he : wc[q0]? = some (b, .inr (ci, fs))) (hq : q.1 = C) (hn : As.length = n) (hl : ls.size = nL) (hroom : (rest.map fun v => v.category).sum ≤ 8)
    (hst : st = As.reverse ++ .ref b :: rest) (hdg : decode cc pc = .ok (.invokevirtual index, 3)) (hce : cells + mc ≤ R.cells ∧ slots + ms ≤ R.slots)
    (kk : ∀ (r : Int64) (u : S0) (H1 : Heap) (locs1 : List Loc), post r u → gP Γ (w1 u ++ wr) H1 → va_D A0 (w1 u ++ wr) → va_S A0 H0 H1 locs1 → W p l e R s m args below meth c H1 locs1 (cells + mc) (slots + ms) Q (F0 m (pc + 3) ls (.long r :: rest))) : W p l e R s m args below meth c H locs cells slots Q (F0 m pc ls st) := by
  subst hst
  subst hq
  have hP2 := gP_l hP
  have hF := gF hD hS hA
  exact va_calll (va_runV S hM (k.V S.2.2.2.2 hT hC hR) ⟨ws0_blind, va_recv hK hP2 hc he, fun U hU hW => ⟨rfl, by rw [hU], by rw [hU]; exact hP2, va_K.moved hW.alike hK, (gD_l hD).weaken (fun _ _ _ _ => trivial)⟩⟩ rfl hn hl rfl (lv_room hroom) hdg hce) hS (fun q _ h => hF q h) hF
    (fun r u t H1 locs1 ht hvm hp hB hz1 hk1 hS1 => by
      obtain ⟨hP1, hK1, hD1⟩ := hB
      rw [ht] at hP1
      obtain ⟨hP3, hD3⟩ := app_join hP hD hk1 hF hP1 hD1
      exact kk r u H1 locs1 hp hP3 hD3 hS1)
theorem aWd {post : UInt64 → S0 → Prop} {w1 : S0 → va_W} {H0 : Heap} (hM : Met l y wy rm (va_Pc (.ref b :: As) (ws0 Γ H.size wc)) (va_Qd post (fun u t => wd Γ (va_A wc H.size) (w1 u) t) (va_A wc H.size)) mc ms (va_A wc H.size))
    (S : CallFix p m c cc nL s args Ts own) (k : Cal y wy rm bytes maxL ret n mc ms) (hT : GoodIn Ts (wsV own index C y wy)) (hC : y.cls = C) (hR : rm.frames + 1 ≤ R.frames ∧ 8 + (maxL + 11) + rm.locals ≤ R.locals)
    (hK : gK Γ s) (hP : gP Γ (wc ++ wr) H) (hD : va_D A0 (wc ++ wr)) (hS : va_S A0 H0 H locs) (hA : ∀ q, H0.size ≤ q → A0 q)
    (q0 : Nat) {ci : Nat} {q : vw_C} {fs : List Value} (hc : vwCl[ci]? = some q) (he : wc[q0]? = some (b, .inr (ci, fs))) (hq : q.1 = C) (hn : As.length = n) (hl : ls.size = nL) (hroom : (rest.map fun v => v.category).sum ≤ 8)
    (hst : st = As.reverse ++ .ref b :: rest) (hdg : decode cc pc = .ok (.invokevirtual index, 3)) (hce : cells + mc ≤ R.cells ∧ slots + ms ≤ R.slots)
    (kk : ∀ (r : UInt64) (u : S0) (H1 : Heap) (locs1 : List Loc), post r u → gP Γ (w1 u ++ wr) H1 → va_D A0 (w1 u ++ wr) → va_S A0 H0 H1 locs1 → W p l e R s m args below meth c H1 locs1 (cells + mc) (slots + ms) Q (F0 m (pc + 3) ls (.double r :: rest))) : W p l e R s m args below meth c H locs cells slots Q (F0 m pc ls st) := by
  subst hst
  subst hq
  have hP2 := gP_l hP
  have hF := gF hD hS hA
  exact va_calld (va_runV S hM (k.V S.2.2.2.2 hT hC hR) ⟨ws0_blind, va_recv hK hP2 hc he, fun U hU hW => ⟨rfl, by rw [hU], by rw [hU]; exact hP2, va_K.moved hW.alike hK, (gD_l hD).weaken (fun _ _ _ _ => trivial)⟩⟩ rfl hn hl rfl (lv_room hroom) hdg hce) hS (fun q _ h => hF q h) hF
    (fun r u t H1 locs1 ht hvm hp hB hz1 hk1 hS1 => by
      obtain ⟨hP1, hK1, hD1⟩ := hB
      rw [ht] at hP1
      obtain ⟨hP3, hD3⟩ := app_join hP hD hk1 hF hP1 hD1
      exact kk r u H1 locs1 hp hP3 hD3 hS1)
/-- two equal longs compared -/
theorem rLcmp (hexec : p.tables.exec = Jvm.exec) (hb : c.code = cc) {x : Int64} (hdg : decode cc pc = .ok (.lcmp, 1)) (k : W p l e R s m args below meth c H locs cells slots Q (F0 m (pc + 1) ls (.int 0 :: rest))) : W p l e R s m args below meth c H locs cells slots Q (F0 m pc ls (.long x :: .long x :: rest)) := by
  intro T hT X
  obtain ⟨t, a, b⟩ := k T hT X
  refine ⟨t, ?_, b⟩
  jvm_step X.here [X.here.top, hexec, hb, hdg]
  exact a
end HL
abbrev rm_L_row : Room := { frames := 7, cells := 1, slots := 6, locals := 132 }
theorem k_L_row : CalH yL_row wsL_row rm_L_row cL_row 7 (some .int) [(0, 14, 17, 13), (0, 14, 21, 15), (0, 14, 25, 17)] 6 1 6 := ⟨⟨_, rfl⟩, rfl, rfl, by decide +kernel⟩
set_option maxHeartbeats 4000000 in
set_option maxRecDepth 100000 in
theorem m_L_row (l : Launch) (hfl : l.stackTraces = false) (Γ : Gm) (sz : Nat) (a : Nat → Nat) (b : Nat → Nat → Nat) (rf : Nat → Option Nat) (hrf : ∀ i, i < 6 → rf i = some (b i 0)) (f : Nat → Nat → Int32) (z : Nat → Int32) (F : Nat → Nat → Nat → Int32) (Z : Nat → Nat → Int32) (σ : Nat → Nat) (sc : Nat) (ss : Nat → Nat → Nat) (nb : Nat) (bb : Nat → Nat) (hX : XR σ sc ss nb bb f z F Z) (o : Nat) (og : Nat → Int64) (io ia iv iw : Int32) : vx_Met l yL_row wsL_row rm_L_row (va_Pc [.ref (a 34), .int io, .int ia, .int iv, .int iw, .ref o] (wsE Γ sz ((o, oC Γ og) :: wXo Γ a b rf f z F Z))) (va_Qi (S := WtL) (fun r u => HO (roC σ io ia iv iw) r (nI (σ 0)) (XR (rowS σ io.toNatClampNeg ia.toNatClampNeg iv.toNatClampNeg iw.toNatClampNeg) (svC sc) (svS sc ss σ) nb bb u.1.1 u.1.2.1 u.1.2.2.1 u.1.2.2.2) (XR σ sc ss nb bb u.1.1 u.1.2.1 u.1.2.2.1 u.1.2.2.2) (u.2 0)) (fun u t => wd Γ (va_A ((o, oC Γ og) :: wXo Γ a b rf f z F Z) sz) ((o, oC Γ u.2) :: wXo Γ a b rf u.1.1 u.1.2.1 u.1.2.2.1 u.1.2.2.2) t) (va_A ((o, oC Γ og) :: wXo Γ a b rf f z F Z) sz)) (xX sz (fun _ => False)) 1 6 (va_A ((o, oC Γ og) :: wXo Γ a b rf f z F Z) sz) := by
  refine mH (cc := cL_row) (maxL := 7) (ret := some .int) (own := RL) (by decide) rfl rfl (Nat.le_of_ble_eq_true rfl) ?_
  intro p e s m args below meth c S hrt hlk htab hsz hE hK hP hD hA hS ls hl
  subst hsz
  generalize hAe : va_A ((o, oC Γ og) :: wXo Γ a b rf f z F Z) s.heap.size = A at hE hD hA hS ⊢
  obtain ⟨hx, hb, hml, hown, hts⟩ := id S
  have hl : lv_has ls 7 [(0, .ref (a 34)), (1, .int io), (2, .int ia), (3, .int iv), (4, .int iw), (5, .ref o)] := hl
  refine lv_aload hx hb dL_row_0 (lv_at hl 5 rfl) ?_
  refine lv_iconst (v := nI 0) hx hb dL_row_2 (by decide) ?_
  refine lv_aload_n hx hb dL_row_3 rfl (lv_at hl 0 rfl) ?_
  refine lv_iload_n hx hb dL_row_4 rfl (lv_at hl 1 rfl) ?_
  refine lv_iload_n hx hb dL_row_5 rfl (lv_at hl 2 rfl) ?_
  refine lv_iload_n hx hb dL_row_6 rfl (lv_at hl 3 rfl) ?_
  refine lv_iload hx hb dL_row_7 (lv_at hl 4 rfl) ?_
  refine xWi (As := [.int io, .int ia, .int iv, .int iw]) (rest := [.int (nI 0), .ref o]) (wr := [(o, oC Γ og)]) (m_X8_row l Γ _ hfl a b rf hrf f z F Z σ sc ss nb bb hX io ia iv iw) hE S k_X8_row gL_row_X8_row rfl ⟨(Nat.le_of_ble_eq_true rfl), (Nat.le_of_ble_eq_true rfl)⟩ hK (gP_sw (w1 := [(o, oC Γ og)]) hP) (gD_sw (w1 := [(o, oC Γ og)]) hD) hS hA 0 (ci := 8) rfl rfl rfl rfl hl.1 (Nat.le_of_ble_eq_true rfl) rfl dL_row_9 ⟨(Nat.le_of_ble_eq_true rfl), (Nat.le_of_ble_eq_true rfl)⟩ (fun E ce q9 H locs hp hP hS h1 h2 h3 h4 h5 => ?_) (fun r u H locs hr hP hD hS => ?_)
  · have hP : gP Γ ((o, oC Γ og) :: wXo Γ a b rf f z F Z) H := gP_sw (w2 := [(o, oC Γ og)]) hP
    obtain ⟨k, hk, he⟩ := hp
    rcases k with _ | _ | _ | k
    · obtain rfl : xIO = E := Option.some.inj he
      refine vx_catch (own := RL) (name := xIO) (E := xIO) hown [] ⟨0, 14, 17, 13⟩ [⟨0, 14, 21, 15⟩, ⟨0, 14, 25, 17⟩] (by rw [htab]; rfl) (fun w hw => nomatch hw) rfl (by decide) (hts (.classLink RL 13 xIO) (by decide +kernel)) (va_Nw.use rfl hE.2.2.2.1) h3 h4 h5 ?_
      refine lv_astore (lv' := [(6, .ref q9), (0, .ref (a 34)), (1, .int io), (2, .int ia), (3, .int iv), (4, .int iw), (5, .ref o)]) hx hb dL_row_17 hl (by decide) rfl (fun ls hl => ?_)
      refine lv_iconst (v := nI 1) hx hb dL_row_19 (by decide) ?_
      exact vx_ret (W.iret (v := nI 1) hx hb hrt (fun t9 ht9 hW9 => ⟨⟨_, ((f, z, F, Z), og), rfl, HO.bad hk (by decide) hX, by rw [ht9]; exact hP, va_K.moved hW9.alike hK, hD⟩, hS.F ht9⟩) hS.2.2 dL_row_20 hlk)
    · obtain rfl : xIA = E := Option.some.inj he
      refine vx_catch (own := RL) (name := xIA) (E := xIA) hown [⟨0, 14, 17, 13⟩] ⟨0, 14, 21, 15⟩ [⟨0, 14, 25, 17⟩] (by rw [htab]; rfl) (fun w hw => by rw [List.mem_singleton] at hw; subst hw; exact Or.inr ⟨by decide, xIO, hts (.classLink RL 13 xIO) (by decide +kernel), hE.2.2.2.2.2.2.1⟩) rfl (by decide) (hts (.classLink RL 15 xIA) (by decide +kernel)) (va_Nw.use rfl hE.2.2.2.2.1) h3 h4 h5 ?_
      refine lv_astore (lv' := [(6, .ref q9), (0, .ref (a 34)), (1, .int io), (2, .int ia), (3, .int iv), (4, .int iw), (5, .ref o)]) hx hb dL_row_21 hl (by decide) rfl (fun ls hl => ?_)
      refine lv_iconst (v := nI 2) hx hb dL_row_23 (by decide) ?_
      exact vx_ret (W.iret (v := nI 2) hx hb hrt (fun t9 ht9 hW9 => ⟨⟨_, ((f, z, F, Z), og), rfl, HO.bad hk (by decide) hX, by rw [ht9]; exact hP, va_K.moved hW9.alike hK, hD⟩, hS.F ht9⟩) hS.2.2 dL_row_24 hlk)
    · obtain rfl : xIS = E := Option.some.inj he
      refine vx_catch (own := RL) (name := xIS) (E := xIS) hown [⟨0, 14, 17, 13⟩, ⟨0, 14, 21, 15⟩] ⟨0, 14, 25, 17⟩ [] (by rw [htab]; rfl) (fun w hw => by rcases List.mem_cons.mp hw with hw | hw; (· subst hw; exact Or.inr ⟨by decide, xIO, hts (.classLink RL 13 xIO) (by decide +kernel), hE.2.2.2.2.2.2.2.1⟩); (· rw [List.mem_singleton] at hw; subst hw; exact Or.inr ⟨by decide, xIA, hts (.classLink RL 15 xIA) (by decide +kernel), hE.2.2.2.2.2.2.2.2.1⟩)) rfl (by decide) (hts (.classLink RL 17 xIS) (by decide +kernel)) (va_Nw.use rfl hE.2.2.2.2.2.1) h3 h4 h5 ?_
      refine lv_astore (lv' := [(6, .ref q9), (0, .ref (a 34)), (1, .int io), (2, .int ia), (3, .int iv), (4, .int iw), (5, .ref o)]) hx hb dL_row_25 hl (by decide) rfl (fun ls hl => ?_)
      refine lv_iconst (v := nI 3) hx hb dL_row_27 (by decide) ?_
      exact vx_ret (W.iret (v := nI 3) hx hb hrt (fun t9 ht9 hW9 => ⟨⟨_, ((f, z, F, Z), og), rfl, HO.bad hk (by decide) hX, by rw [ht9]; exact hP, va_K.moved hW9.alike hK, hD⟩, hS.F ht9⟩) hS.2.2 dL_row_28 hlk)
    · exact absurd he (by simp)
  · obtain ⟨hk0, hr, hX1⟩ := hr
    subst hr
    have hP : gP Γ ((o, oC Γ og) :: wXo Γ a b rf u.1 u.2.1 u.2.2.1 u.2.2.2) H := gP_sw (w2 := [(o, oC Γ og)]) hP
    have hD : va_D A ((o, oC Γ og) :: wXo Γ a b rf u.1 u.2.1 u.2.2.1 u.2.2.2) := gD_sw (w2 := [(o, oC Γ og)]) hD
    refine lv_i2l (v := (nI (σ 0)).toInt64) hx hb dL_row_12 rfl ?_
    refine va_last hx hb hK hP hD hS 0 2 rfl rfl (vp_in_nI (by omega) (by omega)) dL_row_13 (fun H locs hP hD hS => ?_)
    have ec : (nI 0).toNatClampNeg = 0 := nI_clamp (by omega)
    rw [ec] at hP hD
    clear ec
    refine lv_goto (tgt := 29) hx hb dL_row_14 (by decide) ?_
    refine lv_iconst (v := nI 0) hx hb dL_row_29 (by decide) ?_
    exact vx_ret (W.iret (v := nI 0) hx hb hrt (fun t9 ht9 hW9 => ⟨⟨_, (u, vp_updL og 0 (nI (σ 0)).toInt64), rfl, HO.ok hk0 rfl (oC_0 og (nI (σ 0)).toInt64) hX1, by rw [ht9]; exact hP, va_K.moved hW9.alike hK, hD⟩, hS.F ht9⟩) hS.2.2 dL_row_30 hlk)

abbrev rm_L_drop : Room := { frames := 8, cells := 1, slots := 6, locals := 132 }
theorem k_L_drop : CalH yL_drop wsL_drop rm_L_drop cL_drop 4 (some .int) [(0, 9, 12, 13)] 3 1 6 := ⟨⟨_, rfl⟩, rfl, rfl, by decide +kernel⟩
set_option maxHeartbeats 4000000 in
set_option maxRecDepth 100000 in
theorem m_L_drop (l : Launch) (hfl : l.stackTraces = false) (Γ : Gm) (sz : Nat) (a : Nat → Nat) (b : Nat → Nat → Nat) (rf : Nat → Option Nat) (hrf : ∀ i, i < 6 → rf i = some (b i 0)) (f : Nat → Nat → Int32) (z : Nat → Int32) (F : Nat → Nat → Nat → Int32) (Z : Nat → Nat → Int32) (σ : Nat → Nat) (sc : Nat) (ss : Nat → Nat → Nat) (nb : Nat) (bb : Nat → Nat) (hX : XR σ sc ss nb bb f z F Z) (o : Nat) (og : Nat → Int64) (ix : Int32) : vx_Met l yL_drop wsL_drop rm_L_drop (va_Pc [.ref (a 34), .int ix, .ref o] (wsE Γ sz ((o, oC Γ og) :: wXo Γ a b rf f z F Z))) (va_Qi (S := WtL) (fun r u => HO (drC σ ix) r (nI (σ 0 - 1)) (XR (drpS σ ix.toNatClampNeg) (svC sc) (svS sc ss σ) nb bb u.1.1 u.1.2.1 u.1.2.2.1 u.1.2.2.2) (XR σ sc ss nb bb u.1.1 u.1.2.1 u.1.2.2.1 u.1.2.2.2) (u.2 0)) (fun u t => wd Γ (va_A ((o, oC Γ og) :: wXo Γ a b rf f z F Z) sz) ((o, oC Γ u.2) :: wXo Γ a b rf u.1.1 u.1.2.1 u.1.2.2.1 u.1.2.2.2) t) (va_A ((o, oC Γ og) :: wXo Γ a b rf f z F Z) sz)) (xX sz (fun _ => False)) 1 6 (va_A ((o, oC Γ og) :: wXo Γ a b rf f z F Z) sz) := by
  refine mH (cc := cL_drop) (maxL := 4) (ret := some .int) (own := RL) (by decide) rfl rfl (Nat.le_of_ble_eq_true rfl) ?_
  intro p e s m args below meth c S hrt hlk htab hsz hE hK hP hD hA hS ls hl
  subst hsz
  generalize hAe : va_A ((o, oC Γ og) :: wXo Γ a b rf f z F Z) s.heap.size = A at hE hD hA hS ⊢
  obtain ⟨hx, hb, hml, hown, hts⟩ := id S
  have hl : lv_has ls 4 [(0, .ref (a 34)), (1, .int ix), (2, .ref o)] := hl
  refine lv_aload_n hx hb dL_drop_0 rfl (lv_at hl 2 rfl) ?_
  refine lv_iconst (v := nI 0) hx hb dL_drop_1 (by decide) ?_
  refine lv_aload_n hx hb dL_drop_2 rfl (lv_at hl 0 rfl) ?_
  refine lv_iload_n hx hb dL_drop_3 rfl (lv_at hl 1 rfl) ?_
  refine xWi (As := [.int ix]) (rest := [.int (nI 0), .ref o]) (wr := [(o, oC Γ og)]) (m_X8_drop l Γ _ hfl a b rf hrf f z F Z σ sc ss nb bb hX ix) hE S k_X8_drop gL_drop_X8_drop rfl ⟨(Nat.le_of_ble_eq_true rfl), (Nat.le_of_ble_eq_true rfl)⟩ hK (gP_sw (w1 := [(o, oC Γ og)]) hP) (gD_sw (w1 := [(o, oC Γ og)]) hD) hS hA 0 (ci := 8) rfl rfl rfl rfl hl.1 (Nat.le_of_ble_eq_true rfl) rfl dL_drop_4 ⟨(Nat.le_of_ble_eq_true rfl), (Nat.le_of_ble_eq_true rfl)⟩ (fun E ce q9 H locs hp hP hS h1 h2 h3 h4 h5 => ?_) (fun r u H locs hr hP hD hS => ?_)
  · have hP : gP Γ ((o, oC Γ og) :: wXo Γ a b rf f z F Z) H := gP_sw (w2 := [(o, oC Γ og)]) hP
    obtain ⟨k, hk, he⟩ := hp
    rcases k with _ | k
    · obtain rfl : xIO = E := Option.some.inj he
      refine vx_catch (own := RL) (name := xIO) (E := xIO) hown [] ⟨0, 9, 12, 13⟩ [] (by rw [htab]; rfl) (fun w hw => nomatch hw) rfl (by decide) (hts (.classLink RL 13 xIO) (by decide +kernel)) (va_Nw.use rfl hE.2.2.2.1) h3 h4 h5 ?_
      refine lv_astore_n (lv' := [(3, .ref q9), (0, .ref (a 34)), (1, .int ix), (2, .ref o)]) hx hb dL_drop_12 rfl hl (by decide) rfl (fun ls hl => ?_)
      refine lv_iconst (v := nI 1) hx hb dL_drop_13 (by decide) ?_
      exact vx_ret (W.iret (v := nI 1) hx hb hrt (fun t9 ht9 hW9 => ⟨⟨_, ((f, z, F, Z), og), rfl, HO.bad hk (by decide) hX, by rw [ht9]; exact hP, va_K.moved hW9.alike hK, hD⟩, hS.F ht9⟩) hS.2.2 dL_drop_14 hlk)
    · exact absurd he (by simp)
  · obtain ⟨hk0, hr, hX1⟩ := hr
    subst hr
    have hP : gP Γ ((o, oC Γ og) :: wXo Γ a b rf u.1 u.2.1 u.2.2.1 u.2.2.2) H := gP_sw (w2 := [(o, oC Γ og)]) hP
    have hD : va_D A ((o, oC Γ og) :: wXo Γ a b rf u.1 u.2.1 u.2.2.1 u.2.2.2) := gD_sw (w2 := [(o, oC Γ og)]) hD
    refine lv_i2l (v := (nI (σ 0 - 1)).toInt64) hx hb dL_drop_7 rfl ?_
    refine va_last hx hb hK hP hD hS 0 2 rfl rfl (vp_in_nI (by omega) (by omega)) dL_drop_8 (fun H locs hP hD hS => ?_)
    have ec : (nI 0).toNatClampNeg = 0 := nI_clamp (by omega)
    rw [ec] at hP hD
    clear ec
    refine lv_goto (tgt := 15) hx hb dL_drop_9 (by decide) ?_
    refine lv_iconst (v := nI 0) hx hb dL_drop_15 (by decide) ?_
    exact vx_ret (W.iret (v := nI 0) hx hb hrt (fun t9 ht9 hW9 => ⟨⟨_, (u, vp_updL og 0 (nI (σ 0 - 1)).toInt64), rfl, HO.ok hk0 rfl (oC_0 og (nI (σ 0 - 1)).toInt64) hX1, by rw [ht9]; exact hP, va_K.moved hW9.alike hK, hD⟩, hS.F ht9⟩) hS.2.2 dL_drop_16 hlk)

abbrev rm_L_change : Room := { frames := 8, cells := 2, slots := 12, locals := 133 }
theorem k_L_change : CalH yL_change wsL_change rm_L_change cL_change 5 (some .int) [(0, 10, 13, 13), (0, 10, 17, 15)] 4 2 12 := ⟨⟨_, rfl⟩, rfl, rfl, by decide +kernel⟩
set_option maxHeartbeats 4000000 in
set_option maxRecDepth 100000 in
theorem m_L_change (l : Launch) (hfl : l.stackTraces = false) (Γ : Gm) (sz : Nat) (a : Nat → Nat) (b : Nat → Nat → Nat) (rf : Nat → Option Nat) (hrf : ∀ i, i < 6 → rf i = some (b i 0)) (f : Nat → Nat → Int32) (z : Nat → Int32) (F : Nat → Nat → Nat → Int32) (Z : Nat → Nat → Int32) (σ : Nat → Nat) (sc : Nat) (ss : Nat → Nat → Nat) (nb : Nat) (bb : Nat → Nat) (hX : XR σ sc ss nb bb f z F Z) (o : Nat) (og : Nat → Int64) (ix iv : Int32) : vx_Met l yL_change wsL_change rm_L_change (va_Pc [.ref (a 34), .int ix, .int iv, .ref o] (wsE Γ sz ((o, oC Γ og) :: wXo Γ a b rf f z F Z))) (va_Qi (S := WtL) (fun r u => HO (chC σ ix iv) r (nI (oR σ ix.toNatClampNeg 2)) (XR (chgS σ ix.toNatClampNeg iv.toNatClampNeg) (svC sc) (svS sc ss σ) nb bb u.1.1 u.1.2.1 u.1.2.2.1 u.1.2.2.2) (XR σ sc ss nb bb u.1.1 u.1.2.1 u.1.2.2.1 u.1.2.2.2) (u.2 0)) (fun u t => wd Γ (va_A ((o, oC Γ og) :: wXo Γ a b rf f z F Z) sz) ((o, oC Γ u.2) :: wXo Γ a b rf u.1.1 u.1.2.1 u.1.2.2.1 u.1.2.2.2) t) (va_A ((o, oC Γ og) :: wXo Γ a b rf f z F Z) sz)) (xX sz (fun _ => False)) 2 12 (va_A ((o, oC Γ og) :: wXo Γ a b rf f z F Z) sz) := by
  refine mH (cc := cL_change) (maxL := 5) (ret := some .int) (own := RL) (by decide) rfl rfl (Nat.le_of_ble_eq_true rfl) ?_
  intro p e s m args below meth c S hrt hlk htab hsz hE hK hP hD hA hS ls hl
  subst hsz
  generalize hAe : va_A ((o, oC Γ og) :: wXo Γ a b rf f z F Z) s.heap.size = A at hE hD hA hS ⊢
  obtain ⟨hx, hb, hml, hown, hts⟩ := id S
  have hl : lv_has ls 5 [(0, .ref (a 34)), (1, .int ix), (2, .int iv), (3, .ref o)] := hl
  refine lv_aload_n hx hb dL_change_0 rfl (lv_at hl 3 rfl) ?_
  refine lv_iconst (v := nI 0) hx hb dL_change_1 (by decide) ?_
  refine lv_aload_n hx hb dL_change_2 rfl (lv_at hl 0 rfl) ?_
  refine lv_iload_n hx hb dL_change_3 rfl (lv_at hl 1 rfl) ?_
  refine lv_iload_n hx hb dL_change_4 rfl (lv_at hl 2 rfl) ?_
  refine xWi (As := [.int ix, .int iv]) (rest := [.int (nI 0), .ref o]) (wr := [(o, oC Γ og)]) (m_X8_change l Γ _ hfl a b rf hrf f z F Z σ sc ss nb bb hX ix iv) hE S k_X8_change gL_change_X8_change rfl ⟨(Nat.le_of_ble_eq_true rfl), (Nat.le_of_ble_eq_true rfl)⟩ hK (gP_sw (w1 := [(o, oC Γ og)]) hP) (gD_sw (w1 := [(o, oC Γ og)]) hD) hS hA 0 (ci := 8) rfl rfl rfl rfl hl.1 (Nat.le_of_ble_eq_true rfl) rfl dL_change_5 ⟨(Nat.le_of_ble_eq_true rfl), (Nat.le_of_ble_eq_true rfl)⟩ (fun E ce q9 H locs hp hP hS h1 h2 h3 h4 h5 => ?_) (fun r u H locs hr hP hD hS => ?_)
  · have hP : gP Γ ((o, oC Γ og) :: wXo Γ a b rf f z F Z) H := gP_sw (w2 := [(o, oC Γ og)]) hP
    obtain ⟨k, hk, he⟩ := hp
    rcases k with _ | _ | k
    · obtain rfl : xIO = E := Option.some.inj he
      refine vx_catch (own := RL) (name := xIO) (E := xIO) hown [] ⟨0, 10, 13, 13⟩ [⟨0, 10, 17, 15⟩] (by rw [htab]; rfl) (fun w hw => nomatch hw) rfl (by decide) (hts (.classLink RL 13 xIO) (by decide +kernel)) (va_Nw.use rfl hE.2.2.2.1) h3 h4 h5 ?_
      refine lv_astore (lv' := [(4, .ref q9), (0, .ref (a 34)), (1, .int ix), (2, .int iv), (3, .ref o)]) hx hb dL_change_13 hl (by decide) rfl (fun ls hl => ?_)
      refine lv_iconst (v := nI 1) hx hb dL_change_15 (by decide) ?_
      exact vx_ret (W.iret (v := nI 1) hx hb hrt (fun t9 ht9 hW9 => ⟨⟨_, ((f, z, F, Z), og), rfl, HO.bad hk (by decide) hX, by rw [ht9]; exact hP, va_K.moved hW9.alike hK, hD⟩, hS.F ht9⟩) hS.2.2 dL_change_16 hlk)
    · obtain rfl : xIA = E := Option.some.inj he
      refine vx_catch (own := RL) (name := xIA) (E := xIA) hown [⟨0, 10, 13, 13⟩] ⟨0, 10, 17, 15⟩ [] (by rw [htab]; rfl) (fun w hw => by rw [List.mem_singleton] at hw; subst hw; exact Or.inr ⟨by decide, xIO, hts (.classLink RL 13 xIO) (by decide +kernel), hE.2.2.2.2.2.2.1⟩) rfl (by decide) (hts (.classLink RL 15 xIA) (by decide +kernel)) (va_Nw.use rfl hE.2.2.2.2.1) h3 h4 h5 ?_
      refine lv_astore (lv' := [(4, .ref q9), (0, .ref (a 34)), (1, .int ix), (2, .int iv), (3, .ref o)]) hx hb dL_change_17 hl (by decide) rfl (fun ls hl => ?_)
      refine lv_iconst (v := nI 2) hx hb dL_change_19 (by decide) ?_
      exact vx_ret (W.iret (v := nI 2) hx hb hrt (fun t9 ht9 hW9 => ⟨⟨_, ((f, z, F, Z), og), rfl, HO.bad hk (by decide) hX, by rw [ht9]; exact hP, va_K.moved hW9.alike hK, hD⟩, hS.F ht9⟩) hS.2.2 dL_change_20 hlk)
    · exact absurd he (by simp)
  · obtain ⟨hk0, hr, hX1⟩ := hr
    subst hr
    have hP : gP Γ ((o, oC Γ og) :: wXo Γ a b rf u.1 u.2.1 u.2.2.1 u.2.2.2) H := gP_sw (w2 := [(o, oC Γ og)]) hP
    have hD : va_D A ((o, oC Γ og) :: wXo Γ a b rf u.1 u.2.1 u.2.2.1 u.2.2.2) := gD_sw (w2 := [(o, oC Γ og)]) hD
    refine lv_i2l (v := (nI (oR σ ix.toNatClampNeg 2)).toInt64) hx hb dL_change_8 rfl ?_
    refine va_last hx hb hK hP hD hS 0 2 rfl rfl (vp_in_nI (by omega) (by omega)) dL_change_9 (fun H locs hP hD hS => ?_)
    have ec : (nI 0).toNatClampNeg = 0 := nI_clamp (by omega)
    rw [ec] at hP hD
    clear ec
    refine lv_goto (tgt := 21) hx hb dL_change_10 (by decide) ?_
    refine lv_iconst (v := nI 0) hx hb dL_change_21 (by decide) ?_
    exact vx_ret (W.iret (v := nI 0) hx hb hrt (fun t9 ht9 hW9 => ⟨⟨_, (u, vp_updL og 0 (nI (oR σ ix.toNatClampNeg 2)).toInt64), rfl, HO.ok hk0 rfl (oC_0 og (nI (oR σ ix.toNatClampNeg 2)).toInt64) hX1, by rw [ht9]; exact hP, va_K.moved hW9.alike hK, hD⟩, hS.F ht9⟩) hS.2.2 dL_change_22 hlk)

abbrev rm_L_person : Room := { frames := 7, cells := 1, slots := 6, locals := 130 }
theorem k_L_person : CalH yL_person wsL_person rm_L_person cL_person 6 (some .int) [(0, 12, 15, 13), (0, 12, 19, 15)] 5 1 6 := ⟨⟨_, rfl⟩, rfl, rfl, by decide +kernel⟩
set_option maxHeartbeats 4000000 in
set_option maxRecDepth 100000 in
theorem m_L_person (l : Launch) (hfl : l.stackTraces = false) (Γ : Gm) (sz : Nat) (a : Nat → Nat) (b : Nat → Nat → Nat) (rf : Nat → Option Nat) (hrf : ∀ i, i < 6 → rf i = some (b i 0)) (f : Nat → Nat → Int32) (z : Nat → Int32) (F : Nat → Nat → Nat → Int32) (Z : Nat → Nat → Int32) (σ : Nat → Nat) (sc : Nat) (ss : Nat → Nat → Nat) (nb : Nat) (bb : Nat → Nat) (hX : XR σ sc ss nb bb f z F Z) (o : Nat) (og : Nat → Int64) (ip ik ih : Int32) : vx_Met l yL_person wsL_person rm_L_person (va_Pc [.ref (a 34), .int ip, .int ik, .int ih, .ref o] (wsE Γ sz ((o, oC Γ og) :: wXo Γ a b rf f z F Z))) (va_Qi (S := WtL) (fun r u => HO (psC ip ik ih) r (nI (oP σ ip.toNatClampNeg 0)) (XR (perS σ ip.toNatClampNeg ik.toNatClampNeg ih.toNatClampNeg) (svC sc) (svS sc ss σ) nb bb u.1.1 u.1.2.1 u.1.2.2.1 u.1.2.2.2) (XR σ sc ss nb bb u.1.1 u.1.2.1 u.1.2.2.1 u.1.2.2.2) (u.2 0)) (fun u t => wd Γ (va_A ((o, oC Γ og) :: wXo Γ a b rf f z F Z) sz) ((o, oC Γ u.2) :: wXo Γ a b rf u.1.1 u.1.2.1 u.1.2.2.1 u.1.2.2.2) t) (va_A ((o, oC Γ og) :: wXo Γ a b rf f z F Z) sz)) (xX sz (fun _ => False)) 1 6 (va_A ((o, oC Γ og) :: wXo Γ a b rf f z F Z) sz) := by
  refine mH (cc := cL_person) (maxL := 6) (ret := some .int) (own := RL) (by decide) rfl rfl (Nat.le_of_ble_eq_true rfl) ?_
  intro p e s m args below meth c S hrt hlk htab hsz hE hK hP hD hA hS ls hl
  subst hsz
  generalize hAe : va_A ((o, oC Γ og) :: wXo Γ a b rf f z F Z) s.heap.size = A at hE hD hA hS ⊢
  obtain ⟨hx, hb, hml, hown, hts⟩ := id S
  have hl : lv_has ls 6 [(0, .ref (a 34)), (1, .int ip), (2, .int ik), (3, .int ih), (4, .ref o)] := hl
  refine lv_aload hx hb dL_person_0 (lv_at hl 4 rfl) ?_
  refine lv_iconst (v := nI 0) hx hb dL_person_2 (by decide) ?_
  refine lv_aload_n hx hb dL_person_3 rfl (lv_at hl 0 rfl) ?_
  refine lv_iload_n hx hb dL_person_4 rfl (lv_at hl 1 rfl) ?_
  refine lv_iload_n hx hb dL_person_5 rfl (lv_at hl 2 rfl) ?_
  refine lv_iload_n hx hb dL_person_6 rfl (lv_at hl 3 rfl) ?_
  refine xWi (As := [.int ip, .int ik, .int ih]) (rest := [.int (nI 0), .ref o]) (wr := [(o, oC Γ og)]) (m_X8_person l Γ _ hfl a b rf hrf f z F Z σ sc ss nb bb hX ip ik ih) hE S k_X8_person gL_person_X8_person rfl ⟨(Nat.le_of_ble_eq_true rfl), (Nat.le_of_ble_eq_true rfl)⟩ hK (gP_sw (w1 := [(o, oC Γ og)]) hP) (gD_sw (w1 := [(o, oC Γ og)]) hD) hS hA 0 (ci := 8) rfl rfl rfl rfl hl.1 (Nat.le_of_ble_eq_true rfl) rfl dL_person_7 ⟨(Nat.le_of_ble_eq_true rfl), (Nat.le_of_ble_eq_true rfl)⟩ (fun E ce q9 H locs hp hP hS h1 h2 h3 h4 h5 => ?_) (fun r u H locs hr hP hD hS => ?_)
  · have hP : gP Γ ((o, oC Γ og) :: wXo Γ a b rf f z F Z) H := gP_sw (w2 := [(o, oC Γ og)]) hP
    obtain ⟨k, hk, he⟩ := hp
    rcases k with _ | _ | k
    · obtain rfl : xIO = E := Option.some.inj he
      refine vx_catch (own := RL) (name := xIO) (E := xIO) hown [] ⟨0, 12, 15, 13⟩ [⟨0, 12, 19, 15⟩] (by rw [htab]; rfl) (fun w hw => nomatch hw) rfl (by decide) (hts (.classLink RL 13 xIO) (by decide +kernel)) (va_Nw.use rfl hE.2.2.2.1) h3 h4 h5 ?_
      refine lv_astore (lv' := [(5, .ref q9), (0, .ref (a 34)), (1, .int ip), (2, .int ik), (3, .int ih), (4, .ref o)]) hx hb dL_person_15 hl (by decide) rfl (fun ls hl => ?_)
      refine lv_iconst (v := nI 1) hx hb dL_person_17 (by decide) ?_
      exact vx_ret (W.iret (v := nI 1) hx hb hrt (fun t9 ht9 hW9 => ⟨⟨_, ((f, z, F, Z), og), rfl, HO.bad hk (by decide) hX, by rw [ht9]; exact hP, va_K.moved hW9.alike hK, hD⟩, hS.F ht9⟩) hS.2.2 dL_person_18 hlk)
    · obtain rfl : xIA = E := Option.some.inj he
      refine vx_catch (own := RL) (name := xIA) (E := xIA) hown [⟨0, 12, 15, 13⟩] ⟨0, 12, 19, 15⟩ [] (by rw [htab]; rfl) (fun w hw => by rw [List.mem_singleton] at hw; subst hw; exact Or.inr ⟨by decide, xIO, hts (.classLink RL 13 xIO) (by decide +kernel), hE.2.2.2.2.2.2.1⟩) rfl (by decide) (hts (.classLink RL 15 xIA) (by decide +kernel)) (va_Nw.use rfl hE.2.2.2.2.1) h3 h4 h5 ?_
      refine lv_astore (lv' := [(5, .ref q9), (0, .ref (a 34)), (1, .int ip), (2, .int ik), (3, .int ih), (4, .ref o)]) hx hb dL_person_19 hl (by decide) rfl (fun ls hl => ?_)
      refine lv_iconst (v := nI 2) hx hb dL_person_21 (by decide) ?_
      exact vx_ret (W.iret (v := nI 2) hx hb hrt (fun t9 ht9 hW9 => ⟨⟨_, ((f, z, F, Z), og), rfl, HO.bad hk (by decide) hX, by rw [ht9]; exact hP, va_K.moved hW9.alike hK, hD⟩, hS.F ht9⟩) hS.2.2 dL_person_22 hlk)
    · exact absurd he (by simp)
  · obtain ⟨hk0, hr, hX1⟩ := hr
    subst hr
    have hP : gP Γ ((o, oC Γ og) :: wXo Γ a b rf u.1 u.2.1 u.2.2.1 u.2.2.2) H := gP_sw (w2 := [(o, oC Γ og)]) hP
    have hD : va_D A ((o, oC Γ og) :: wXo Γ a b rf u.1 u.2.1 u.2.2.1 u.2.2.2) := gD_sw (w2 := [(o, oC Γ og)]) hD
    refine lv_i2l (v := (nI (oP σ ip.toNatClampNeg 0)).toInt64) hx hb dL_person_10 rfl ?_
    refine va_last hx hb hK hP hD hS 0 2 rfl rfl (vp_in_nI (by omega) (by omega)) dL_person_11 (fun H locs hP hD hS => ?_)
    have ec : (nI 0).toNatClampNeg = 0 := nI_clamp (by omega)
    rw [ec] at hP hD
    clear ec
    refine lv_goto (tgt := 23) hx hb dL_person_12 (by decide) ?_
    refine lv_iconst (v := nI 0) hx hb dL_person_23 (by decide) ?_
    exact vx_ret (W.iret (v := nI 0) hx hb hrt (fun t9 ht9 hW9 => ⟨⟨_, (u, vp_updL og 0 (nI (oP σ ip.toNatClampNeg 0)).toInt64), rfl, HO.ok hk0 rfl (oC_0 og (nI (oP σ ip.toNatClampNeg 0)).toInt64) hX1, by rw [ht9]; exact hP, va_K.moved hW9.alike hK, hD⟩, hS.F ht9⟩) hS.2.2 dL_person_24 hlk)

abbrev rm_L_master : Room := { frames := 7, cells := 1, slots := 6, locals := 129 }
theorem k_L_master : CalH yL_master wsL_master rm_L_master cL_master 5 (some .int) [(0, 10, 13, 13), (0, 10, 17, 15)] 4 1 6 := ⟨⟨_, rfl⟩, rfl, rfl, by decide +kernel⟩
set_option maxHeartbeats 4000000 in
set_option maxRecDepth 100000 in
theorem m_L_master (l : Launch) (hfl : l.stackTraces = false) (Γ : Gm) (sz : Nat) (a : Nat → Nat) (b : Nat → Nat → Nat) (rf : Nat → Option Nat) (hrf : ∀ i, i < 6 → rf i = some (b i 0)) (f : Nat → Nat → Int32) (z : Nat → Int32) (F : Nat → Nat → Nat → Int32) (Z : Nat → Nat → Int32) (σ : Nat → Nat) (sc : Nat) (ss : Nat → Nat → Nat) (nb : Nat) (bb : Nat → Nat) (hX : XR σ sc ss nb bb f z F Z) (o : Nat) (og : Nat → Int64) (ip im : Int32) : vx_Met l yL_master wsL_master rm_L_master (va_Pc [.ref (a 34), .int ip, .int im, .ref o] (wsE Γ sz ((o, oC Γ og) :: wXo Γ a b rf f z F Z))) (va_Qi (S := WtL) (fun r u => HO (maC ip im) r (mI (oP σ ip.toNatClampNeg 2)) (XR (masS σ ip.toNatClampNeg (masN im)) (svC sc) (svS sc ss σ) nb bb u.1.1 u.1.2.1 u.1.2.2.1 u.1.2.2.2) (XR σ sc ss nb bb u.1.1 u.1.2.1 u.1.2.2.1 u.1.2.2.2) (u.2 0)) (fun u t => wd Γ (va_A ((o, oC Γ og) :: wXo Γ a b rf f z F Z) sz) ((o, oC Γ u.2) :: wXo Γ a b rf u.1.1 u.1.2.1 u.1.2.2.1 u.1.2.2.2) t) (va_A ((o, oC Γ og) :: wXo Γ a b rf f z F Z) sz)) (xX sz (fun _ => False)) 1 6 (va_A ((o, oC Γ og) :: wXo Γ a b rf f z F Z) sz) := by
  refine mH (cc := cL_master) (maxL := 5) (ret := some .int) (own := RL) (by decide) rfl rfl (Nat.le_of_ble_eq_true rfl) ?_
  intro p e s m args below meth c S hrt hlk htab hsz hE hK hP hD hA hS ls hl
  subst hsz
  generalize hAe : va_A ((o, oC Γ og) :: wXo Γ a b rf f z F Z) s.heap.size = A at hE hD hA hS ⊢
  obtain ⟨hx, hb, hml, hown, hts⟩ := id S
  have hl : lv_has ls 5 [(0, .ref (a 34)), (1, .int ip), (2, .int im), (3, .ref o)] := hl
  refine lv_aload_n hx hb dL_master_0 rfl (lv_at hl 3 rfl) ?_
  refine lv_iconst (v := nI 0) hx hb dL_master_1 (by decide) ?_
  refine lv_aload_n hx hb dL_master_2 rfl (lv_at hl 0 rfl) ?_
  refine lv_iload_n hx hb dL_master_3 rfl (lv_at hl 1 rfl) ?_
  refine lv_iload_n hx hb dL_master_4 rfl (lv_at hl 2 rfl) ?_
  refine xWi (As := [.int ip, .int im]) (rest := [.int (nI 0), .ref o]) (wr := [(o, oC Γ og)]) (m_X8_master l Γ _ hfl a b rf hrf f z F Z σ sc ss nb bb hX ip im) hE S k_X8_master gL_master_X8_master rfl ⟨(Nat.le_of_ble_eq_true rfl), (Nat.le_of_ble_eq_true rfl)⟩ hK (gP_sw (w1 := [(o, oC Γ og)]) hP) (gD_sw (w1 := [(o, oC Γ og)]) hD) hS hA 0 (ci := 8) rfl rfl rfl rfl hl.1 (Nat.le_of_ble_eq_true rfl) rfl dL_master_5 ⟨(Nat.le_of_ble_eq_true rfl), (Nat.le_of_ble_eq_true rfl)⟩ (fun E ce q9 H locs hp hP hS h1 h2 h3 h4 h5 => ?_) (fun r u H locs hr hP hD hS => ?_)
  · have hP : gP Γ ((o, oC Γ og) :: wXo Γ a b rf f z F Z) H := gP_sw (w2 := [(o, oC Γ og)]) hP
    obtain ⟨k, hk, he⟩ := hp
    rcases k with _ | _ | k
    · obtain rfl : xIO = E := Option.some.inj he
      refine vx_catch (own := RL) (name := xIO) (E := xIO) hown [] ⟨0, 10, 13, 13⟩ [⟨0, 10, 17, 15⟩] (by rw [htab]; rfl) (fun w hw => nomatch hw) rfl (by decide) (hts (.classLink RL 13 xIO) (by decide +kernel)) (va_Nw.use rfl hE.2.2.2.1) h3 h4 h5 ?_
      refine lv_astore (lv' := [(4, .ref q9), (0, .ref (a 34)), (1, .int ip), (2, .int im), (3, .ref o)]) hx hb dL_master_13 hl (by decide) rfl (fun ls hl => ?_)
      refine lv_iconst (v := nI 1) hx hb dL_master_15 (by decide) ?_
      exact vx_ret (W.iret (v := nI 1) hx hb hrt (fun t9 ht9 hW9 => ⟨⟨_, ((f, z, F, Z), og), rfl, HO.bad hk (by decide) hX, by rw [ht9]; exact hP, va_K.moved hW9.alike hK, hD⟩, hS.F ht9⟩) hS.2.2 dL_master_16 hlk)
    · obtain rfl : xIA = E := Option.some.inj he
      refine vx_catch (own := RL) (name := xIA) (E := xIA) hown [⟨0, 10, 13, 13⟩] ⟨0, 10, 17, 15⟩ [] (by rw [htab]; rfl) (fun w hw => by rw [List.mem_singleton] at hw; subst hw; exact Or.inr ⟨by decide, xIO, hts (.classLink RL 13 xIO) (by decide +kernel), hE.2.2.2.2.2.2.1⟩) rfl (by decide) (hts (.classLink RL 15 xIA) (by decide +kernel)) (va_Nw.use rfl hE.2.2.2.2.1) h3 h4 h5 ?_
      refine lv_astore (lv' := [(4, .ref q9), (0, .ref (a 34)), (1, .int ip), (2, .int im), (3, .ref o)]) hx hb dL_master_17 hl (by decide) rfl (fun ls hl => ?_)
      refine lv_iconst (v := nI 2) hx hb dL_master_19 (by decide) ?_
      exact vx_ret (W.iret (v := nI 2) hx hb hrt (fun t9 ht9 hW9 => ⟨⟨_, ((f, z, F, Z), og), rfl, HO.bad hk (by decide) hX, by rw [ht9]; exact hP, va_K.moved hW9.alike hK, hD⟩, hS.F ht9⟩) hS.2.2 dL_master_20 hlk)
    · exact absurd he (by simp)
  · obtain ⟨hk0, hr, hX1⟩ := hr
    subst hr
    have hP : gP Γ ((o, oC Γ og) :: wXo Γ a b rf u.1 u.2.1 u.2.2.1 u.2.2.2) H := gP_sw (w2 := [(o, oC Γ og)]) hP
    have hD : va_D A ((o, oC Γ og) :: wXo Γ a b rf u.1 u.2.1 u.2.2.1 u.2.2.2) := gD_sw (w2 := [(o, oC Γ og)]) hD
    refine lv_i2l (v := (mI (oP σ ip.toNatClampNeg 2)).toInt64) hx hb dL_master_8 rfl ?_
    refine va_last hx hb hK hP hD hS 0 2 rfl rfl (vp_in_nI (by omega) (by omega)) dL_master_9 (fun H locs hP hD hS => ?_)
    have ec : (nI 0).toNatClampNeg = 0 := nI_clamp (by omega)
    rw [ec] at hP hD
    clear ec
    refine lv_goto (tgt := 21) hx hb dL_master_10 (by decide) ?_
    refine lv_iconst (v := nI 0) hx hb dL_master_21 (by decide) ?_
    exact vx_ret (W.iret (v := nI 0) hx hb hrt (fun t9 ht9 hW9 => ⟨⟨_, (u, vp_updL og 0 (mI (oP σ ip.toNatClampNeg 2)).toInt64), rfl, HO.ok hk0 rfl (oC_0 og (mI (oP σ ip.toNatClampNeg 2)).toInt64) hX1, by rw [ht9]; exact hP, va_K.moved hW9.alike hK, hD⟩, hS.F ht9⟩) hS.2.2 dL_master_22 hlk)

abbrev rm_L_force : Room := { frames := 8, cells := 1, slots := 6, locals := 134 }
theorem k_L_force : CalH yL_force wsL_force rm_L_force cL_force 5 (some .int) [(0, 10, 13, 13)] 4 1 6 := ⟨⟨_, rfl⟩, rfl, rfl, by decide +kernel⟩
set_option maxHeartbeats 4000000 in
set_option maxRecDepth 100000 in
theorem m_L_force (l : Launch) (hfl : l.stackTraces = false) (Γ : Gm) (sz : Nat) (a : Nat → Nat) (b : Nat → Nat → Nat) (rf : Nat → Option Nat) (hrf : ∀ i, i < 6 → rf i = some (b i 0)) (f : Nat → Nat → Int32) (z : Nat → Int32) (F : Nat → Nat → Nat → Int32) (Z : Nat → Nat → Int32) (σ : Nat → Nat) (sc : Nat) (ss : Nat → Nat → Nat) (nb : Nat) (bb : Nat → Nat) (hX : XR σ sc ss nb bb f z F Z) (o : Nat) (og : Nat → Int64) (ip : Int32) (ib : Bool) : vx_Met l yL_force wsL_force rm_L_force (va_Pc [.ref (a 34), .int ip, .int (bI ib), .ref o] (wsE Γ sz ((o, oC Γ og) :: wXo Γ a b rf f z F Z))) (va_Qi (S := WtL) (fun r u => HO (foC ip) r (nI ((σ 1 >>> ip.toNatClampNeg) % 2)) (XR (frcS σ (frcN (σ 1) ip.toNatClampNeg ib)) (svC sc) (svS sc ss σ) nb bb u.1.1 u.1.2.1 u.1.2.2.1 u.1.2.2.2) (XR σ sc ss nb bb u.1.1 u.1.2.1 u.1.2.2.1 u.1.2.2.2) (u.2 0)) (fun u t => wd Γ (va_A ((o, oC Γ og) :: wXo Γ a b rf f z F Z) sz) ((o, oC Γ u.2) :: wXo Γ a b rf u.1.1 u.1.2.1 u.1.2.2.1 u.1.2.2.2) t) (va_A ((o, oC Γ og) :: wXo Γ a b rf f z F Z) sz)) (xX sz (fun _ => False)) 1 6 (va_A ((o, oC Γ og) :: wXo Γ a b rf f z F Z) sz) := by
  refine mH (cc := cL_force) (maxL := 5) (ret := some .int) (own := RL) (by decide) rfl rfl (Nat.le_of_ble_eq_true rfl) ?_
  intro p e s m args below meth c S hrt hlk htab hsz hE hK hP hD hA hS ls hl
  subst hsz
  generalize hAe : va_A ((o, oC Γ og) :: wXo Γ a b rf f z F Z) s.heap.size = A at hE hD hA hS ⊢
  obtain ⟨hx, hb, hml, hown, hts⟩ := id S
  have hl : lv_has ls 5 [(0, .ref (a 34)), (1, .int ip), (2, .int (bI ib)), (3, .ref o)] := hl
  refine lv_aload_n hx hb dL_force_0 rfl (lv_at hl 3 rfl) ?_
  refine lv_iconst (v := nI 0) hx hb dL_force_1 (by decide) ?_
  refine lv_aload_n hx hb dL_force_2 rfl (lv_at hl 0 rfl) ?_
  refine lv_iload_n hx hb dL_force_3 rfl (lv_at hl 1 rfl) ?_
  refine lv_iload_n hx hb dL_force_4 rfl (lv_at hl 2 rfl) ?_
  refine xWi (As := [.int ip, .int (bI ib)]) (rest := [.int (nI 0), .ref o]) (wr := [(o, oC Γ og)]) (m_X8_force l Γ _ hfl a b rf hrf f z F Z σ sc ss nb bb hX ip ib) hE S k_X8_force gL_force_X8_force rfl ⟨(Nat.le_of_ble_eq_true rfl), (Nat.le_of_ble_eq_true rfl)⟩ hK (gP_sw (w1 := [(o, oC Γ og)]) hP) (gD_sw (w1 := [(o, oC Γ og)]) hD) hS hA 0 (ci := 8) rfl rfl rfl rfl hl.1 (Nat.le_of_ble_eq_true rfl) rfl dL_force_5 ⟨(Nat.le_of_ble_eq_true rfl), (Nat.le_of_ble_eq_true rfl)⟩ (fun E ce q9 H locs hp hP hS h1 h2 h3 h4 h5 => ?_) (fun r u H locs hr hP hD hS => ?_)
  · have hP : gP Γ ((o, oC Γ og) :: wXo Γ a b rf f z F Z) H := gP_sw (w2 := [(o, oC Γ og)]) hP
    obtain ⟨k, hk, he⟩ := hp
    rcases k with _ | k
    · obtain rfl : xIO = E := Option.some.inj he
      refine vx_catch (own := RL) (name := xIO) (E := xIO) hown [] ⟨0, 10, 13, 13⟩ [] (by rw [htab]; rfl) (fun w hw => nomatch hw) rfl (by decide) (hts (.classLink RL 13 xIO) (by decide +kernel)) (va_Nw.use rfl hE.2.2.2.1) h3 h4 h5 ?_
      refine lv_astore (lv' := [(4, .ref q9), (0, .ref (a 34)), (1, .int ip), (2, .int (bI ib)), (3, .ref o)]) hx hb dL_force_13 hl (by decide) rfl (fun ls hl => ?_)
      refine lv_iconst (v := nI 1) hx hb dL_force_15 (by decide) ?_
      exact vx_ret (W.iret (v := nI 1) hx hb hrt (fun t9 ht9 hW9 => ⟨⟨_, ((f, z, F, Z), og), rfl, HO.bad hk (by decide) hX, by rw [ht9]; exact hP, va_K.moved hW9.alike hK, hD⟩, hS.F ht9⟩) hS.2.2 dL_force_16 hlk)
    · exact absurd he (by simp)
  · obtain ⟨hk0, hr, hX1⟩ := hr
    subst hr
    have hP : gP Γ ((o, oC Γ og) :: wXo Γ a b rf u.1 u.2.1 u.2.2.1 u.2.2.2) H := gP_sw (w2 := [(o, oC Γ og)]) hP
    have hD : va_D A ((o, oC Γ og) :: wXo Γ a b rf u.1 u.2.1 u.2.2.1 u.2.2.2) := gD_sw (w2 := [(o, oC Γ og)]) hD
    refine lv_i2l (v := (nI ((σ 1 >>> ip.toNatClampNeg) % 2)).toInt64) hx hb dL_force_8 rfl ?_
    refine va_last hx hb hK hP hD hS 0 2 rfl rfl (vp_in_nI (by omega) (by omega)) dL_force_9 (fun H locs hP hD hS => ?_)
    have ec : (nI 0).toNatClampNeg = 0 := nI_clamp (by omega)
    rw [ec] at hP hD
    clear ec
    refine lv_goto (tgt := 17) hx hb dL_force_10 (by decide) ?_
    refine lv_iconst (v := nI 0) hx hb dL_force_17 (by decide) ?_
    exact vx_ret (W.iret (v := nI 0) hx hb hrt (fun t9 ht9 hW9 => ⟨⟨_, (u, vp_updL og 0 (nI ((σ 1 >>> ip.toNatClampNeg) % 2)).toInt64), rfl, HO.ok hk0 rfl (oC_0 og (nI ((σ 1 >>> ip.toNatClampNeg) % 2)).toInt64) hX1, by rw [ht9]; exact hP, va_K.moved hW9.alike hK, hD⟩, hS.F ht9⟩) hS.2.2 dL_force_18 hlk)

abbrev rm_L_set : Room := { frames := 7, cells := 1, slots := 6, locals := 130 }
theorem k_L_set : CalH yL_set wsL_set rm_L_set cL_set 5 (some .int) [(0, 10, 13, 13), (0, 10, 17, 15)] 4 1 6 := ⟨⟨_, rfl⟩, rfl, rfl, by decide +kernel⟩
set_option maxHeartbeats 4000000 in
set_option maxRecDepth 100000 in
theorem m_L_set (l : Launch) (hfl : l.stackTraces = false) (Γ : Gm) (sz : Nat) (a : Nat → Nat) (b : Nat → Nat → Nat) (rf : Nat → Option Nat) (hrf : ∀ i, i < 6 → rf i = some (b i 0)) (f : Nat → Nat → Int32) (z : Nat → Int32) (F : Nat → Nat → Nat → Int32) (Z : Nat → Nat → Int32) (σ : Nat → Nat) (sc : Nat) (ss : Nat → Nat → Nat) (nb : Nat) (bb : Nat → Nat) (hX : XR σ sc ss nb bb f z F Z) (o : Nat) (og : Nat → Int64) (ix iv : Int32) : vx_Met l yL_set wsL_set rm_L_set (va_Pc [.ref (a 34), .int ix, .int iv, .ref o] (wsE Γ sz ((o, oC Γ og) :: wXo Γ a b rf f z F Z))) (va_Qi (S := WtL) (fun r u => HO (seC ix iv) r (nI (σ (2 + ix.toNatClampNeg))) (XR (setS σ ix.toNatClampNeg iv.toNatClampNeg) (svC sc) (svS sc ss σ) nb bb u.1.1 u.1.2.1 u.1.2.2.1 u.1.2.2.2) (XR σ sc ss nb bb u.1.1 u.1.2.1 u.1.2.2.1 u.1.2.2.2) (u.2 0)) (fun u t => wd Γ (va_A ((o, oC Γ og) :: wXo Γ a b rf f z F Z) sz) ((o, oC Γ u.2) :: wXo Γ a b rf u.1.1 u.1.2.1 u.1.2.2.1 u.1.2.2.2) t) (va_A ((o, oC Γ og) :: wXo Γ a b rf f z F Z) sz)) (xX sz (fun _ => False)) 1 6 (va_A ((o, oC Γ og) :: wXo Γ a b rf f z F Z) sz) := by
  refine mH (cc := cL_set) (maxL := 5) (ret := some .int) (own := RL) (by decide) rfl rfl (Nat.le_of_ble_eq_true rfl) ?_
  intro p e s m args below meth c S hrt hlk htab hsz hE hK hP hD hA hS ls hl
  subst hsz
  generalize hAe : va_A ((o, oC Γ og) :: wXo Γ a b rf f z F Z) s.heap.size = A at hE hD hA hS ⊢
  obtain ⟨hx, hb, hml, hown, hts⟩ := id S
  have hl : lv_has ls 5 [(0, .ref (a 34)), (1, .int ix), (2, .int iv), (3, .ref o)] := hl
  refine lv_aload_n hx hb dL_set_0 rfl (lv_at hl 3 rfl) ?_
  refine lv_iconst (v := nI 0) hx hb dL_set_1 (by decide) ?_
  refine lv_aload_n hx hb dL_set_2 rfl (lv_at hl 0 rfl) ?_
  refine lv_iload_n hx hb dL_set_3 rfl (lv_at hl 1 rfl) ?_
  refine lv_iload_n hx hb dL_set_4 rfl (lv_at hl 2 rfl) ?_
  refine xWi (As := [.int ix, .int iv]) (rest := [.int (nI 0), .ref o]) (wr := [(o, oC Γ og)]) (m_X8_set l Γ _ hfl a b rf hrf f z F Z σ sc ss nb bb hX ix iv) hE S k_X8_set gL_set_X8_set rfl ⟨(Nat.le_of_ble_eq_true rfl), (Nat.le_of_ble_eq_true rfl)⟩ hK (gP_sw (w1 := [(o, oC Γ og)]) hP) (gD_sw (w1 := [(o, oC Γ og)]) hD) hS hA 0 (ci := 8) rfl rfl rfl rfl hl.1 (Nat.le_of_ble_eq_true rfl) rfl dL_set_5 ⟨(Nat.le_of_ble_eq_true rfl), (Nat.le_of_ble_eq_true rfl)⟩ (fun E ce q9 H locs hp hP hS h1 h2 h3 h4 h5 => ?_) (fun r u H locs hr hP hD hS => ?_)
  · have hP : gP Γ ((o, oC Γ og) :: wXo Γ a b rf f z F Z) H := gP_sw (w2 := [(o, oC Γ og)]) hP
    obtain ⟨k, hk, he⟩ := hp
    rcases k with _ | _ | k
    · obtain rfl : xIO = E := Option.some.inj he
      refine vx_catch (own := RL) (name := xIO) (E := xIO) hown [] ⟨0, 10, 13, 13⟩ [⟨0, 10, 17, 15⟩] (by rw [htab]; rfl) (fun w hw => nomatch hw) rfl (by decide) (hts (.classLink RL 13 xIO) (by decide +kernel)) (va_Nw.use rfl hE.2.2.2.1) h3 h4 h5 ?_
      refine lv_astore (lv' := [(4, .ref q9), (0, .ref (a 34)), (1, .int ix), (2, .int iv), (3, .ref o)]) hx hb dL_set_13 hl (by decide) rfl (fun ls hl => ?_)
      refine lv_iconst (v := nI 1) hx hb dL_set_15 (by decide) ?_
      exact vx_ret (W.iret (v := nI 1) hx hb hrt (fun t9 ht9 hW9 => ⟨⟨_, ((f, z, F, Z), og), rfl, HO.bad hk (by decide) hX, by rw [ht9]; exact hP, va_K.moved hW9.alike hK, hD⟩, hS.F ht9⟩) hS.2.2 dL_set_16 hlk)
    · obtain rfl : xIA = E := Option.some.inj he
      refine vx_catch (own := RL) (name := xIA) (E := xIA) hown [⟨0, 10, 13, 13⟩] ⟨0, 10, 17, 15⟩ [] (by rw [htab]; rfl) (fun w hw => by rw [List.mem_singleton] at hw; subst hw; exact Or.inr ⟨by decide, xIO, hts (.classLink RL 13 xIO) (by decide +kernel), hE.2.2.2.2.2.2.1⟩) rfl (by decide) (hts (.classLink RL 15 xIA) (by decide +kernel)) (va_Nw.use rfl hE.2.2.2.2.1) h3 h4 h5 ?_
      refine lv_astore (lv' := [(4, .ref q9), (0, .ref (a 34)), (1, .int ix), (2, .int iv), (3, .ref o)]) hx hb dL_set_17 hl (by decide) rfl (fun ls hl => ?_)
      refine lv_iconst (v := nI 2) hx hb dL_set_19 (by decide) ?_
      exact vx_ret (W.iret (v := nI 2) hx hb hrt (fun t9 ht9 hW9 => ⟨⟨_, ((f, z, F, Z), og), rfl, HO.bad hk (by decide) hX, by rw [ht9]; exact hP, va_K.moved hW9.alike hK, hD⟩, hS.F ht9⟩) hS.2.2 dL_set_20 hlk)
    · exact absurd he (by simp)
  · obtain ⟨hk0, hr, hX1⟩ := hr
    subst hr
    have hP : gP Γ ((o, oC Γ og) :: wXo Γ a b rf u.1 u.2.1 u.2.2.1 u.2.2.2) H := gP_sw (w2 := [(o, oC Γ og)]) hP
    have hD : va_D A ((o, oC Γ og) :: wXo Γ a b rf u.1 u.2.1 u.2.2.1 u.2.2.2) := gD_sw (w2 := [(o, oC Γ og)]) hD
    refine lv_i2l (v := (nI (σ (2 + ix.toNatClampNeg))).toInt64) hx hb dL_set_8 rfl ?_
    refine va_last hx hb hK hP hD hS 0 2 rfl rfl (vp_in_nI (by omega) (by omega)) dL_set_9 (fun H locs hP hD hS => ?_)
    have ec : (nI 0).toNatClampNeg = 0 := nI_clamp (by omega)
    rw [ec] at hP hD
    clear ec
    refine lv_goto (tgt := 21) hx hb dL_set_10 (by decide) ?_
    refine lv_iconst (v := nI 0) hx hb dL_set_21 (by decide) ?_
    exact vx_ret (W.iret (v := nI 0) hx hb hrt (fun t9 ht9 hW9 => ⟨⟨_, (u, vp_updL og 0 (nI (σ (2 + ix.toNatClampNeg))).toInt64), rfl, HO.ok hk0 rfl (oC_0 og (nI (σ (2 + ix.toNatClampNeg))).toInt64) hX1, by rw [ht9]; exact hP, va_K.moved hW9.alike hK, hD⟩, hS.F ht9⟩) hS.2.2 dL_set_22 hlk)

abbrev rm_L_ask : Room := { frames := 8, cells := 1, slots := 6, locals := 139 }
theorem k_L_ask : CalH yL_ask wsL_ask rm_L_ask cL_ask 7 (some .int) [(0, 14, 17, 13), (0, 14, 21, 15)] 6 1 6 := ⟨⟨_, rfl⟩, rfl, rfl, by decide +kernel⟩
set_option maxHeartbeats 4000000 in
set_option maxRecDepth 100000 in
theorem m_L_ask (l : Launch) (hfl : l.stackTraces = false) (Γ : Gm) (sz : Nat) (a : Nat → Nat) (b : Nat → Nat → Nat) (rf : Nat → Option Nat) (hrf : ∀ i, i < 6 → rf i = some (b i 0)) (f : Nat → Nat → Int32) (z : Nat → Int32) (F : Nat → Nat → Nat → Int32) (Z : Nat → Nat → Int32) (σ : Nat → Nat) (sc : Nat) (ss : Nat → Nat → Nat) (nb : Nat) (bb : Nat → Nat) (hX : XR σ sc ss nb bb f z F Z) (o : Nat) (og : Nat → Int64) (ip ipl il ih : Int32) : vx_Met l yL_ask wsL_ask rm_L_ask (va_Pc [.ref (a 34), .int ip, .int ipl, .int il, .int ih, .ref o] (wsE Γ sz ((o, oC Γ og) :: wXo Γ a b rf f z F Z))) (va_Qi (S := WtL) (fun r u => HO (qCode ip ipl il ih) r (cAns σ ip.toNatClampNeg (seenQ σ ip.toNatClampNeg ipl il.toNatClampNeg ih.toNatClampNeg)) (XR (askS σ ip.toNatClampNeg ipl il.toNatClampNeg ih.toNatClampNeg) (svC sc) (svS sc ss σ) nb bb u.1.1 u.1.2.1 u.1.2.2.1 u.1.2.2.2) (XR σ sc ss nb bb u.1.1 u.1.2.1 u.1.2.2.1 u.1.2.2.2) (u.2 0)) (fun u t => wd Γ (va_A ((o, oC Γ og) :: wXo Γ a b rf f z F Z) sz) ((o, oC Γ u.2) :: wXo Γ a b rf u.1.1 u.1.2.1 u.1.2.2.1 u.1.2.2.2) t) (va_A ((o, oC Γ og) :: wXo Γ a b rf f z F Z) sz)) (xX sz (fun _ => False)) 1 6 (va_A ((o, oC Γ og) :: wXo Γ a b rf f z F Z) sz) := by
  refine mH (cc := cL_ask) (maxL := 7) (ret := some .int) (own := RL) (by decide) rfl rfl (Nat.le_of_ble_eq_true rfl) ?_
  intro p e s m args below meth c S hrt hlk htab hsz hE hK hP hD hA hS ls hl
  subst hsz
  generalize hAe : va_A ((o, oC Γ og) :: wXo Γ a b rf f z F Z) s.heap.size = A at hE hD hA hS ⊢
  obtain ⟨hx, hb, hml, hown, hts⟩ := id S
  have hl : lv_has ls 7 [(0, .ref (a 34)), (1, .int ip), (2, .int ipl), (3, .int il), (4, .int ih), (5, .ref o)] := hl
  refine lv_aload hx hb dL_ask_0 (lv_at hl 5 rfl) ?_
  refine lv_iconst (v := nI 0) hx hb dL_ask_2 (by decide) ?_
  refine lv_aload_n hx hb dL_ask_3 rfl (lv_at hl 0 rfl) ?_
  refine lv_iload_n hx hb dL_ask_4 rfl (lv_at hl 1 rfl) ?_
  refine lv_iload_n hx hb dL_ask_5 rfl (lv_at hl 2 rfl) ?_
  refine lv_iload_n hx hb dL_ask_6 rfl (lv_at hl 3 rfl) ?_
  refine lv_iload hx hb dL_ask_7 (lv_at hl 4 rfl) ?_
  refine xWi (As := [.int ip, .int ipl, .int il, .int ih]) (rest := [.int (nI 0), .ref o]) (wr := [(o, oC Γ og)]) (m_X8_ask l Γ _ hfl a b rf hrf f z F Z σ sc ss nb bb hX ip ipl il ih) hE S k_X8_ask gL_ask_X8_ask rfl ⟨(Nat.le_of_ble_eq_true rfl), (Nat.le_of_ble_eq_true rfl)⟩ hK (gP_sw (w1 := [(o, oC Γ og)]) hP) (gD_sw (w1 := [(o, oC Γ og)]) hD) hS hA 0 (ci := 8) rfl rfl rfl rfl hl.1 (Nat.le_of_ble_eq_true rfl) rfl dL_ask_9 ⟨(Nat.le_of_ble_eq_true rfl), (Nat.le_of_ble_eq_true rfl)⟩ (fun E ce q9 H locs hp hP hS h1 h2 h3 h4 h5 => ?_) (fun r u H locs hr hP hD hS => ?_)
  · have hP : gP Γ ((o, oC Γ og) :: wXo Γ a b rf f z F Z) H := gP_sw (w2 := [(o, oC Γ og)]) hP
    obtain ⟨k, hk, he⟩ := hp
    rcases k with _ | _ | k
    · obtain rfl : xIO = E := Option.some.inj he
      refine vx_catch (own := RL) (name := xIO) (E := xIO) hown [] ⟨0, 14, 17, 13⟩ [⟨0, 14, 21, 15⟩] (by rw [htab]; rfl) (fun w hw => nomatch hw) rfl (by decide) (hts (.classLink RL 13 xIO) (by decide +kernel)) (va_Nw.use rfl hE.2.2.2.1) h3 h4 h5 ?_
      refine lv_astore (lv' := [(6, .ref q9), (0, .ref (a 34)), (1, .int ip), (2, .int ipl), (3, .int il), (4, .int ih), (5, .ref o)]) hx hb dL_ask_17 hl (by decide) rfl (fun ls hl => ?_)
      refine lv_iconst (v := nI 1) hx hb dL_ask_19 (by decide) ?_
      exact vx_ret (W.iret (v := nI 1) hx hb hrt (fun t9 ht9 hW9 => ⟨⟨_, ((f, z, F, Z), og), rfl, HO.bad hk (by decide) hX, by rw [ht9]; exact hP, va_K.moved hW9.alike hK, hD⟩, hS.F ht9⟩) hS.2.2 dL_ask_20 hlk)
    · obtain rfl : xIA = E := Option.some.inj he
      refine vx_catch (own := RL) (name := xIA) (E := xIA) hown [⟨0, 14, 17, 13⟩] ⟨0, 14, 21, 15⟩ [] (by rw [htab]; rfl) (fun w hw => by rw [List.mem_singleton] at hw; subst hw; exact Or.inr ⟨by decide, xIO, hts (.classLink RL 13 xIO) (by decide +kernel), hE.2.2.2.2.2.2.1⟩) rfl (by decide) (hts (.classLink RL 15 xIA) (by decide +kernel)) (va_Nw.use rfl hE.2.2.2.2.1) h3 h4 h5 ?_
      refine lv_astore (lv' := [(6, .ref q9), (0, .ref (a 34)), (1, .int ip), (2, .int ipl), (3, .int il), (4, .int ih), (5, .ref o)]) hx hb dL_ask_21 hl (by decide) rfl (fun ls hl => ?_)
      refine lv_iconst (v := nI 2) hx hb dL_ask_23 (by decide) ?_
      exact vx_ret (W.iret (v := nI 2) hx hb hrt (fun t9 ht9 hW9 => ⟨⟨_, ((f, z, F, Z), og), rfl, HO.bad hk (by decide) hX, by rw [ht9]; exact hP, va_K.moved hW9.alike hK, hD⟩, hS.F ht9⟩) hS.2.2 dL_ask_24 hlk)
    · exact absurd he (by simp)
  · obtain ⟨hk0, hr, hX1⟩ := hr
    subst hr
    have hP : gP Γ ((o, oC Γ og) :: wXo Γ a b rf u.1 u.2.1 u.2.2.1 u.2.2.2) H := gP_sw (w2 := [(o, oC Γ og)]) hP
    have hD : va_D A ((o, oC Γ og) :: wXo Γ a b rf u.1 u.2.1 u.2.2.1 u.2.2.2) := gD_sw (w2 := [(o, oC Γ og)]) hD
    refine lv_i2l (v := (cAns σ ip.toNatClampNeg (seenQ σ ip.toNatClampNeg ipl il.toNatClampNeg ih.toNatClampNeg)).toInt64) hx hb dL_ask_12 rfl ?_
    refine va_last hx hb hK hP hD hS 0 2 rfl rfl (vp_in_nI (by omega) (by omega)) dL_ask_13 (fun H locs hP hD hS => ?_)
    have ec : (nI 0).toNatClampNeg = 0 := nI_clamp (by omega)
    rw [ec] at hP hD
    clear ec
    refine lv_goto (tgt := 25) hx hb dL_ask_14 (by decide) ?_
    refine lv_iconst (v := nI 0) hx hb dL_ask_25 (by decide) ?_
    exact vx_ret (W.iret (v := nI 0) hx hb hrt (fun t9 ht9 hW9 => ⟨⟨_, (u, vp_updL og 0 (cAns σ ip.toNatClampNeg (seenQ σ ip.toNatClampNeg ipl il.toNatClampNeg ih.toNatClampNeg)).toInt64), rfl, HO.ok hk0 rfl (oC_0 og (cAns σ ip.toNatClampNeg (seenQ σ ip.toNatClampNeg ipl il.toNatClampNeg ih.toNatClampNeg)).toInt64) hX1, by rw [ht9]; exact hP, va_K.moved hW9.alike hK, hD⟩, hS.F ht9⟩) hS.2.2 dL_ask_26 hlk)

abbrev rm_L_askSum : Room := { frames := 8, cells := 1, slots := 6, locals := 138 }
theorem k_L_askSum : CalH yL_askSum wsL_askSum rm_L_askSum cL_askSum 7 (some .int) [(0, 14, 17, 13), (0, 14, 21, 15)] 6 1 6 := ⟨⟨_, rfl⟩, rfl, rfl, by decide +kernel⟩
set_option maxHeartbeats 4000000 in
set_option maxRecDepth 100000 in
theorem m_L_askSum (l : Launch) (hfl : l.stackTraces = false) (Γ : Gm) (sz : Nat) (a : Nat → Nat) (b : Nat → Nat → Nat) (rf : Nat → Option Nat) (hrf : ∀ i, i < 6 → rf i = some (b i 0)) (f : Nat → Nat → Int32) (z : Nat → Int32) (F : Nat → Nat → Nat → Int32) (Z : Nat → Nat → Int32) (σ : Nat → Nat) (sc : Nat) (ss : Nat → Nat → Nat) (nb : Nat) (bb : Nat → Nat) (hX : XR σ sc ss nb bb f z F Z) (o : Nat) (og : Nat → Int64) (ip ipl il ih : Int32) : vx_Met l yL_askSum wsL_askSum rm_L_askSum (va_Pc [.ref (a 34), .int ip, .int ipl, .int il, .int ih, .ref o] (wsE Γ sz ((o, oC Γ og) :: wXo Γ a b rf f z F Z))) (va_Qi (S := WtL) (fun r u => HO (qCode ip ipl il ih) r (sAns σ (seenQ σ ip.toNatClampNeg ipl il.toNatClampNeg ih.toNatClampNeg)) (XR (asmS σ ip.toNatClampNeg ipl il.toNatClampNeg ih.toNatClampNeg) (svC sc) (svS sc ss σ) nb bb u.1.1 u.1.2.1 u.1.2.2.1 u.1.2.2.2) (XR σ sc ss nb bb u.1.1 u.1.2.1 u.1.2.2.1 u.1.2.2.2) (u.2 0)) (fun u t => wd Γ (va_A ((o, oC Γ og) :: wXo Γ a b rf f z F Z) sz) ((o, oC Γ u.2) :: wXo Γ a b rf u.1.1 u.1.2.1 u.1.2.2.1 u.1.2.2.2) t) (va_A ((o, oC Γ og) :: wXo Γ a b rf f z F Z) sz)) (xX sz (fun _ => False)) 1 6 (va_A ((o, oC Γ og) :: wXo Γ a b rf f z F Z) sz) := by
  refine mH (cc := cL_askSum) (maxL := 7) (ret := some .int) (own := RL) (by decide) rfl rfl (Nat.le_of_ble_eq_true rfl) ?_
  intro p e s m args below meth c S hrt hlk htab hsz hE hK hP hD hA hS ls hl
  subst hsz
  generalize hAe : va_A ((o, oC Γ og) :: wXo Γ a b rf f z F Z) s.heap.size = A at hE hD hA hS ⊢
  obtain ⟨hx, hb, hml, hown, hts⟩ := id S
  have hl : lv_has ls 7 [(0, .ref (a 34)), (1, .int ip), (2, .int ipl), (3, .int il), (4, .int ih), (5, .ref o)] := hl
  refine lv_aload hx hb dL_askSum_0 (lv_at hl 5 rfl) ?_
  refine lv_iconst (v := nI 0) hx hb dL_askSum_2 (by decide) ?_
  refine lv_aload_n hx hb dL_askSum_3 rfl (lv_at hl 0 rfl) ?_
  refine lv_iload_n hx hb dL_askSum_4 rfl (lv_at hl 1 rfl) ?_
  refine lv_iload_n hx hb dL_askSum_5 rfl (lv_at hl 2 rfl) ?_
  refine lv_iload_n hx hb dL_askSum_6 rfl (lv_at hl 3 rfl) ?_
  refine lv_iload hx hb dL_askSum_7 (lv_at hl 4 rfl) ?_
  refine xWi (As := [.int ip, .int ipl, .int il, .int ih]) (rest := [.int (nI 0), .ref o]) (wr := [(o, oC Γ og)]) (m_X8_askSum l Γ _ hfl a b rf hrf f z F Z σ sc ss nb bb hX ip ipl il ih) hE S k_X8_askSum gL_askSum_X8_askSum rfl ⟨(Nat.le_of_ble_eq_true rfl), (Nat.le_of_ble_eq_true rfl)⟩ hK (gP_sw (w1 := [(o, oC Γ og)]) hP) (gD_sw (w1 := [(o, oC Γ og)]) hD) hS hA 0 (ci := 8) rfl rfl rfl rfl hl.1 (Nat.le_of_ble_eq_true rfl) rfl dL_askSum_9 ⟨(Nat.le_of_ble_eq_true rfl), (Nat.le_of_ble_eq_true rfl)⟩ (fun E ce q9 H locs hp hP hS h1 h2 h3 h4 h5 => ?_) (fun r u H locs hr hP hD hS => ?_)
  · have hP : gP Γ ((o, oC Γ og) :: wXo Γ a b rf f z F Z) H := gP_sw (w2 := [(o, oC Γ og)]) hP
    obtain ⟨k, hk, he⟩ := hp
    rcases k with _ | _ | k
    · obtain rfl : xIO = E := Option.some.inj he
      refine vx_catch (own := RL) (name := xIO) (E := xIO) hown [] ⟨0, 14, 17, 13⟩ [⟨0, 14, 21, 15⟩] (by rw [htab]; rfl) (fun w hw => nomatch hw) rfl (by decide) (hts (.classLink RL 13 xIO) (by decide +kernel)) (va_Nw.use rfl hE.2.2.2.1) h3 h4 h5 ?_
      refine lv_astore (lv' := [(6, .ref q9), (0, .ref (a 34)), (1, .int ip), (2, .int ipl), (3, .int il), (4, .int ih), (5, .ref o)]) hx hb dL_askSum_17 hl (by decide) rfl (fun ls hl => ?_)
      refine lv_iconst (v := nI 1) hx hb dL_askSum_19 (by decide) ?_
      exact vx_ret (W.iret (v := nI 1) hx hb hrt (fun t9 ht9 hW9 => ⟨⟨_, ((f, z, F, Z), og), rfl, HO.bad hk (by decide) hX, by rw [ht9]; exact hP, va_K.moved hW9.alike hK, hD⟩, hS.F ht9⟩) hS.2.2 dL_askSum_20 hlk)
    · obtain rfl : xIA = E := Option.some.inj he
      refine vx_catch (own := RL) (name := xIA) (E := xIA) hown [⟨0, 14, 17, 13⟩] ⟨0, 14, 21, 15⟩ [] (by rw [htab]; rfl) (fun w hw => by rw [List.mem_singleton] at hw; subst hw; exact Or.inr ⟨by decide, xIO, hts (.classLink RL 13 xIO) (by decide +kernel), hE.2.2.2.2.2.2.1⟩) rfl (by decide) (hts (.classLink RL 15 xIA) (by decide +kernel)) (va_Nw.use rfl hE.2.2.2.2.1) h3 h4 h5 ?_
      refine lv_astore (lv' := [(6, .ref q9), (0, .ref (a 34)), (1, .int ip), (2, .int ipl), (3, .int il), (4, .int ih), (5, .ref o)]) hx hb dL_askSum_21 hl (by decide) rfl (fun ls hl => ?_)
      refine lv_iconst (v := nI 2) hx hb dL_askSum_23 (by decide) ?_
      exact vx_ret (W.iret (v := nI 2) hx hb hrt (fun t9 ht9 hW9 => ⟨⟨_, ((f, z, F, Z), og), rfl, HO.bad hk (by decide) hX, by rw [ht9]; exact hP, va_K.moved hW9.alike hK, hD⟩, hS.F ht9⟩) hS.2.2 dL_askSum_24 hlk)
    · exact absurd he (by simp)
  · obtain ⟨hk0, hr, hX1⟩ := hr
    subst hr
    have hP : gP Γ ((o, oC Γ og) :: wXo Γ a b rf u.1 u.2.1 u.2.2.1 u.2.2.2) H := gP_sw (w2 := [(o, oC Γ og)]) hP
    have hD : va_D A ((o, oC Γ og) :: wXo Γ a b rf u.1 u.2.1 u.2.2.1 u.2.2.2) := gD_sw (w2 := [(o, oC Γ og)]) hD
    refine lv_i2l (v := (sAns σ (seenQ σ ip.toNatClampNeg ipl il.toNatClampNeg ih.toNatClampNeg)).toInt64) hx hb dL_askSum_12 rfl ?_
    refine va_last hx hb hK hP hD hS 0 2 rfl rfl (vp_in_nI (by omega) (by omega)) dL_askSum_13 (fun H locs hP hD hS => ?_)
    have ec : (nI 0).toNatClampNeg = 0 := nI_clamp (by omega)
    rw [ec] at hP hD
    clear ec
    refine lv_goto (tgt := 25) hx hb dL_askSum_14 (by decide) ?_
    refine lv_iconst (v := nI 0) hx hb dL_askSum_25 (by decide) ?_
    exact vx_ret (W.iret (v := nI 0) hx hb hrt (fun t9 ht9 hW9 => ⟨⟨_, (u, vp_updL og 0 (sAns σ (seenQ σ ip.toNatClampNeg ipl il.toNatClampNeg ih.toNatClampNeg)).toInt64), rfl, HO.ok hk0 rfl (oC_0 og (sAns σ (seenQ σ ip.toNatClampNeg ipl il.toNatClampNeg ih.toNatClampNeg)).toInt64) hX1, by rw [ht9]; exact hP, va_K.moved hW9.alike hK, hD⟩, hS.F ht9⟩) hS.2.2 dL_askSum_26 hlk)

abbrev rm_L_forget : Room := { frames := 8, cells := 1, slots := 6, locals := 131 }
theorem k_L_forget : CalH yL_forget wsL_forget rm_L_forget cL_forget 4 (some .int) [(0, 9, 12, 13)] 3 1 6 := ⟨⟨_, rfl⟩, rfl, rfl, by decide +kernel⟩
set_option maxHeartbeats 4000000 in
set_option maxRecDepth 100000 in
theorem m_L_forget (l : Launch) (hfl : l.stackTraces = false) (Γ : Gm) (sz : Nat) (a : Nat → Nat) (b : Nat → Nat → Nat) (rf : Nat → Option Nat) (hrf : ∀ i, i < 6 → rf i = some (b i 0)) (f : Nat → Nat → Int32) (z : Nat → Int32) (F : Nat → Nat → Nat → Int32) (Z : Nat → Nat → Int32) (σ : Nat → Nat) (sc : Nat) (ss : Nat → Nat → Nat) (nb : Nat) (bb : Nat → Nat) (hX : XR σ sc ss nb bb f z F Z) (o : Nat) (og : Nat → Int64) (ip : Int32) : vx_Met l yL_forget wsL_forget rm_L_forget (va_Pc [.ref (a 34), .int ip, .ref o] (wsE Γ sz ((o, oC Γ og) :: wXo Γ a b rf f z F Z))) (va_Qi (S := WtL) (fun r u => HO (fgC ip) r (nI (oK σ ip.toNatClampNeg)) (XR (fgtS σ ip.toNatClampNeg) (svC sc) (svS sc ss σ) nb bb u.1.1 u.1.2.1 u.1.2.2.1 u.1.2.2.2) (XR σ sc ss nb bb u.1.1 u.1.2.1 u.1.2.2.1 u.1.2.2.2) (u.2 0)) (fun u t => wd Γ (va_A ((o, oC Γ og) :: wXo Γ a b rf f z F Z) sz) ((o, oC Γ u.2) :: wXo Γ a b rf u.1.1 u.1.2.1 u.1.2.2.1 u.1.2.2.2) t) (va_A ((o, oC Γ og) :: wXo Γ a b rf f z F Z) sz)) (xX sz (fun _ => False)) 1 6 (va_A ((o, oC Γ og) :: wXo Γ a b rf f z F Z) sz) := by
  refine mH (cc := cL_forget) (maxL := 4) (ret := some .int) (own := RL) (by decide) rfl rfl (Nat.le_of_ble_eq_true rfl) ?_
  intro p e s m args below meth c S hrt hlk htab hsz hE hK hP hD hA hS ls hl
  subst hsz
  generalize hAe : va_A ((o, oC Γ og) :: wXo Γ a b rf f z F Z) s.heap.size = A at hE hD hA hS ⊢
  obtain ⟨hx, hb, hml, hown, hts⟩ := id S
  have hl : lv_has ls 4 [(0, .ref (a 34)), (1, .int ip), (2, .ref o)] := hl
  refine lv_aload_n hx hb dL_forget_0 rfl (lv_at hl 2 rfl) ?_
  refine lv_iconst (v := nI 0) hx hb dL_forget_1 (by decide) ?_
  refine lv_aload_n hx hb dL_forget_2 rfl (lv_at hl 0 rfl) ?_
  refine lv_iload_n hx hb dL_forget_3 rfl (lv_at hl 1 rfl) ?_
  refine xWi (As := [.int ip]) (rest := [.int (nI 0), .ref o]) (wr := [(o, oC Γ og)]) (m_X8_forget l Γ _ hfl a b rf hrf f z F Z σ sc ss nb bb hX ip) hE S k_X8_forget gL_forget_X8_forget rfl ⟨(Nat.le_of_ble_eq_true rfl), (Nat.le_of_ble_eq_true rfl)⟩ hK (gP_sw (w1 := [(o, oC Γ og)]) hP) (gD_sw (w1 := [(o, oC Γ og)]) hD) hS hA 0 (ci := 8) rfl rfl rfl rfl hl.1 (Nat.le_of_ble_eq_true rfl) rfl dL_forget_4 ⟨(Nat.le_of_ble_eq_true rfl), (Nat.le_of_ble_eq_true rfl)⟩ (fun E ce q9 H locs hp hP hS h1 h2 h3 h4 h5 => ?_) (fun r u H locs hr hP hD hS => ?_)
  · have hP : gP Γ ((o, oC Γ og) :: wXo Γ a b rf f z F Z) H := gP_sw (w2 := [(o, oC Γ og)]) hP
    obtain ⟨k, hk, he⟩ := hp
    rcases k with _ | k
    · obtain rfl : xIO = E := Option.some.inj he
      refine vx_catch (own := RL) (name := xIO) (E := xIO) hown [] ⟨0, 9, 12, 13⟩ [] (by rw [htab]; rfl) (fun w hw => nomatch hw) rfl (by decide) (hts (.classLink RL 13 xIO) (by decide +kernel)) (va_Nw.use rfl hE.2.2.2.1) h3 h4 h5 ?_
      refine lv_astore_n (lv' := [(3, .ref q9), (0, .ref (a 34)), (1, .int ip), (2, .ref o)]) hx hb dL_forget_12 rfl hl (by decide) rfl (fun ls hl => ?_)
      refine lv_iconst (v := nI 1) hx hb dL_forget_13 (by decide) ?_
      exact vx_ret (W.iret (v := nI 1) hx hb hrt (fun t9 ht9 hW9 => ⟨⟨_, ((f, z, F, Z), og), rfl, HO.bad hk (by decide) hX, by rw [ht9]; exact hP, va_K.moved hW9.alike hK, hD⟩, hS.F ht9⟩) hS.2.2 dL_forget_14 hlk)
    · exact absurd he (by simp)
  · obtain ⟨hk0, hr, hX1⟩ := hr
    subst hr
    have hP : gP Γ ((o, oC Γ og) :: wXo Γ a b rf u.1 u.2.1 u.2.2.1 u.2.2.2) H := gP_sw (w2 := [(o, oC Γ og)]) hP
    have hD : va_D A ((o, oC Γ og) :: wXo Γ a b rf u.1 u.2.1 u.2.2.1 u.2.2.2) := gD_sw (w2 := [(o, oC Γ og)]) hD
    refine lv_i2l (v := (nI (oK σ ip.toNatClampNeg)).toInt64) hx hb dL_forget_7 rfl ?_
    refine va_last hx hb hK hP hD hS 0 2 rfl rfl (vp_in_nI (by omega) (by omega)) dL_forget_8 (fun H locs hP hD hS => ?_)
    have ec : (nI 0).toNatClampNeg = 0 := nI_clamp (by omega)
    rw [ec] at hP hD
    clear ec
    refine lv_goto (tgt := 15) hx hb dL_forget_9 (by decide) ?_
    refine lv_iconst (v := nI 0) hx hb dL_forget_15 (by decide) ?_
    exact vx_ret (W.iret (v := nI 0) hx hb hrt (fun t9 ht9 hW9 => ⟨⟨_, (u, vp_updL og 0 (nI (oK σ ip.toNatClampNeg)).toInt64), rfl, HO.ok hk0 rfl (oC_0 og (nI (oK σ ip.toNatClampNeg)).toInt64) hX1, by rw [ht9]; exact hP, va_K.moved hW9.alike hK, hD⟩, hS.F ht9⟩) hS.2.2 dL_forget_16 hlk)

abbrev rm_L_append : Room := { frames := 7, cells := 1, slots := 6, locals := 111 }
theorem k_L_append : CalH yL_append wsL_append rm_L_append cL_append 4 (some .int) [(0, 9, 12, 15), (0, 9, 15, 17)] 3 1 6 := ⟨⟨_, rfl⟩, rfl, rfl, by decide +kernel⟩
set_option maxHeartbeats 4000000 in
set_option maxRecDepth 100000 in
theorem m_L_append (l : Launch) (hfl : l.stackTraces = false) (Γ : Gm) (sz : Nat) (a : Nat → Nat) (b : Nat → Nat → Nat) (rf : Nat → Option Nat) (hrf : ∀ i, i < 6 → rf i = some (b i 0)) (f : Nat → Nat → Int32) (z : Nat → Int32) (F : Nat → Nat → Nat → Int32) (Z : Nat → Nat → Int32) (σ : Nat → Nat) (sc : Nat) (ss : Nat → Nat → Nat) (nb : Nat) (bb : Nat → Nat) (hX : XR σ sc ss nb bb f z F Z) (o : Nat) (og : Nat → Int64) (ic : Int32) : vx_Met l yL_append wsL_append rm_L_append (va_Pc [.ref (a 34), .int ic, .ref o] (wsE Γ sz ((o, oC Γ og) :: wXo Γ a b rf f z F Z))) (va_Qi (S := WtL) (fun r u => HO (apC nb ic) r (nI (nb + 1)) (XR σ sc ss (nb + 1) (nup bb nb ic.toNatClampNeg) u.1.1 u.1.2.1 u.1.2.2.1 u.1.2.2.2) (XR σ sc ss nb bb u.1.1 u.1.2.1 u.1.2.2.1 u.1.2.2.2) (u.2 0)) (fun u t => wd Γ (va_A ((o, oC Γ og) :: wXo Γ a b rf f z F Z) sz) ((o, oC Γ u.2) :: wXo Γ a b rf u.1.1 u.1.2.1 u.1.2.2.1 u.1.2.2.2) t) (va_A ((o, oC Γ og) :: wXo Γ a b rf f z F Z) sz)) (xX sz (fun _ => False)) 1 6 (va_A ((o, oC Γ og) :: wXo Γ a b rf f z F Z) sz) := by
  refine mH (cc := cL_append) (maxL := 4) (ret := some .int) (own := RL) (by decide) rfl rfl (Nat.le_of_ble_eq_true rfl) ?_
  intro p e s m args below meth c S hrt hlk htab hsz hE hK hP hD hA hS ls hl
  subst hsz
  generalize hAe : va_A ((o, oC Γ og) :: wXo Γ a b rf f z F Z) s.heap.size = A at hE hD hA hS ⊢
  obtain ⟨hx, hb, hml, hown, hts⟩ := id S
  have hl : lv_has ls 4 [(0, .ref (a 34)), (1, .int ic), (2, .ref o)] := hl
  refine lv_aload_n hx hb dL_append_0 rfl (lv_at hl 2 rfl) ?_
  refine lv_iconst (v := nI 0) hx hb dL_append_1 (by decide) ?_
  refine lv_aload_n hx hb dL_append_2 rfl (lv_at hl 0 rfl) ?_
  refine lv_iload_n hx hb dL_append_3 rfl (lv_at hl 1 rfl) ?_
  refine xWi (As := [.int ic]) (rest := [.int (nI 0), .ref o]) (wr := [(o, oC Γ og)]) (m_X8_append l Γ _ hfl a b rf hrf f z F Z σ sc ss nb bb hX ic) hE S k_X8_append gL_append_X8_append rfl ⟨(Nat.le_of_ble_eq_true rfl), (Nat.le_of_ble_eq_true rfl)⟩ hK (gP_sw (w1 := [(o, oC Γ og)]) hP) (gD_sw (w1 := [(o, oC Γ og)]) hD) hS hA 0 (ci := 8) rfl rfl rfl rfl hl.1 (Nat.le_of_ble_eq_true rfl) rfl dL_append_4 ⟨(Nat.le_of_ble_eq_true rfl), (Nat.le_of_ble_eq_true rfl)⟩ (fun E ce q9 H locs hp hP hS h1 h2 h3 h4 h5 => ?_) (fun r u H locs hr hP hD hS => ?_)
  · have hP : gP Γ ((o, oC Γ og) :: wXo Γ a b rf f z F Z) H := gP_sw (w2 := [(o, oC Γ og)]) hP
    obtain ⟨k, hk, he⟩ := hp
    rcases k with _ | _ | k
    · obtain rfl : xIA = E := Option.some.inj he
      refine vx_catch (own := RL) (name := xIA) (E := xIA) hown [] ⟨0, 9, 12, 15⟩ [⟨0, 9, 15, 17⟩] (by rw [htab]; rfl) (fun w hw => nomatch hw) rfl (by decide) (hts (.classLink RL 15 xIA) (by decide +kernel)) (va_Nw.use rfl hE.2.2.2.2.1) h3 h4 h5 ?_
      refine lv_astore_n (lv' := [(3, .ref q9), (0, .ref (a 34)), (1, .int ic), (2, .ref o)]) hx hb dL_append_12 rfl hl (by decide) rfl (fun ls hl => ?_)
      refine lv_iconst (v := nI 1) hx hb dL_append_13 (by decide) ?_
      exact vx_ret (W.iret (v := nI 1) hx hb hrt (fun t9 ht9 hW9 => ⟨⟨_, ((f, z, F, Z), og), rfl, HO.bad hk (by decide) hX, by rw [ht9]; exact hP, va_K.moved hW9.alike hK, hD⟩, hS.F ht9⟩) hS.2.2 dL_append_14 hlk)
    · obtain rfl : xIS = E := Option.some.inj he
      refine vx_catch (own := RL) (name := xIS) (E := xIS) hown [⟨0, 9, 12, 15⟩] ⟨0, 9, 15, 17⟩ [] (by rw [htab]; rfl) (fun w hw => by rw [List.mem_singleton] at hw; subst hw; exact Or.inr ⟨by decide, xIA, hts (.classLink RL 15 xIA) (by decide +kernel), hE.2.2.2.2.2.2.2.2.1⟩) rfl (by decide) (hts (.classLink RL 17 xIS) (by decide +kernel)) (va_Nw.use rfl hE.2.2.2.2.2.1) h3 h4 h5 ?_
      refine lv_astore_n (lv' := [(3, .ref q9), (0, .ref (a 34)), (1, .int ic), (2, .ref o)]) hx hb dL_append_15 rfl hl (by decide) rfl (fun ls hl => ?_)
      refine lv_iconst (v := nI 2) hx hb dL_append_16 (by decide) ?_
      exact vx_ret (W.iret (v := nI 2) hx hb hrt (fun t9 ht9 hW9 => ⟨⟨_, ((f, z, F, Z), og), rfl, HO.bad hk (by decide) hX, by rw [ht9]; exact hP, va_K.moved hW9.alike hK, hD⟩, hS.F ht9⟩) hS.2.2 dL_append_17 hlk)
    · exact absurd he (by simp)
  · obtain ⟨hk0, hr, hX1⟩ := hr
    subst hr
    have hP : gP Γ ((o, oC Γ og) :: wXo Γ a b rf u.1 u.2.1 u.2.2.1 u.2.2.2) H := gP_sw (w2 := [(o, oC Γ og)]) hP
    have hD : va_D A ((o, oC Γ og) :: wXo Γ a b rf u.1 u.2.1 u.2.2.1 u.2.2.2) := gD_sw (w2 := [(o, oC Γ og)]) hD
    refine lv_i2l (v := (nI (nb + 1)).toInt64) hx hb dL_append_7 rfl ?_
    refine va_last hx hb hK hP hD hS 0 2 rfl rfl (vp_in_nI (by omega) (by omega)) dL_append_8 (fun H locs hP hD hS => ?_)
    have ec : (nI 0).toNatClampNeg = 0 := nI_clamp (by omega)
    rw [ec] at hP hD
    clear ec
    refine lv_goto (tgt := 18) hx hb dL_append_9 (by decide) ?_
    refine lv_iconst (v := nI 0) hx hb dL_append_18 (by decide) ?_
    exact vx_ret (W.iret (v := nI 0) hx hb hrt (fun t9 ht9 hW9 => ⟨⟨_, (u, vp_updL og 0 (nI (nb + 1)).toInt64), rfl, HO.ok hk0 rfl (oC_0 og (nI (nb + 1)).toInt64) hX1, by rw [ht9]; exact hP, va_K.moved hW9.alike hK, hD⟩, hS.F ht9⟩) hS.2.2 dL_append_19 hlk)

abbrev rm_L_rows : Room := { frames := 7, cells := 1, slots := 6, locals := 128 }
theorem k_L_rows : CalH yL_rows wsL_rows rm_L_rows cL_rows 3 (some .int) [(0, 8, 11, 15)] 2 1 6 := ⟨⟨_, rfl⟩, rfl, rfl, by decide +kernel⟩
set_option maxHeartbeats 4000000 in
set_option maxRecDepth 100000 in
theorem m_L_rows (l : Launch) (hfl : l.stackTraces = false) (Γ : Gm) (sz : Nat) (a : Nat → Nat) (b : Nat → Nat → Nat) (rf : Nat → Option Nat) (hrf : ∀ i, i < 6 → rf i = some (b i 0)) (f : Nat → Nat → Int32) (z : Nat → Int32) (F : Nat → Nat → Nat → Int32) (Z : Nat → Nat → Int32) (σ : Nat → Nat) (sc : Nat) (ss : Nat → Nat → Nat) (nb : Nat) (bb : Nat → Nat) (hX : XR σ sc ss nb bb f z F Z) (o : Nat) (og : Nat → Int64)  : vx_Met l yL_rows wsL_rows rm_L_rows (va_Pc [.ref (a 34), .ref o] (wsE Γ sz ((o, oC Γ og) :: wXo Γ a b rf f z F Z))) (va_Qi (S := WtL) (fun r u => HO (rsC bb nb) r (nI (cmeN σ bb nb)) (XR (rdsS σ bb nb) (svC sc) (svS sc ss σ) 0 bb u.1.1 u.1.2.1 u.1.2.2.1 u.1.2.2.2) (XR σ sc ss nb bb u.1.1 u.1.2.1 u.1.2.2.1 u.1.2.2.2) (u.2 0)) (fun u t => wd Γ (va_A ((o, oC Γ og) :: wXo Γ a b rf f z F Z) sz) ((o, oC Γ u.2) :: wXo Γ a b rf u.1.1 u.1.2.1 u.1.2.2.1 u.1.2.2.2) t) (va_A ((o, oC Γ og) :: wXo Γ a b rf f z F Z) sz)) (xX sz (fun _ => False)) 1 6 (va_A ((o, oC Γ og) :: wXo Γ a b rf f z F Z) sz) := by
  refine mH (cc := cL_rows) (maxL := 3) (ret := some .int) (own := RL) (by decide) rfl rfl (Nat.le_of_ble_eq_true rfl) ?_
  intro p e s m args below meth c S hrt hlk htab hsz hE hK hP hD hA hS ls hl
  subst hsz
  generalize hAe : va_A ((o, oC Γ og) :: wXo Γ a b rf f z F Z) s.heap.size = A at hE hD hA hS ⊢
  obtain ⟨hx, hb, hml, hown, hts⟩ := id S
  have hl : lv_has ls 3 [(0, .ref (a 34)), (1, .ref o)] := hl
  refine lv_aload_n hx hb dL_rows_0 rfl (lv_at hl 1 rfl) ?_
  refine lv_iconst (v := nI 0) hx hb dL_rows_1 (by decide) ?_
  refine lv_aload_n hx hb dL_rows_2 rfl (lv_at hl 0 rfl) ?_
  refine xWi (As := []) (rest := [.int (nI 0), .ref o]) (wr := [(o, oC Γ og)]) (m_X8_rows l Γ _ hfl a b rf hrf f z F Z σ sc ss nb bb hX ) hE S k_X8_rows gL_rows_X8_rows rfl ⟨(Nat.le_of_ble_eq_true rfl), (Nat.le_of_ble_eq_true rfl)⟩ hK (gP_sw (w1 := [(o, oC Γ og)]) hP) (gD_sw (w1 := [(o, oC Γ og)]) hD) hS hA 0 (ci := 8) rfl rfl rfl rfl hl.1 (Nat.le_of_ble_eq_true rfl) rfl dL_rows_3 ⟨(Nat.le_of_ble_eq_true rfl), (Nat.le_of_ble_eq_true rfl)⟩ (fun E ce q9 H locs hp hP hS h1 h2 h3 h4 h5 => ?_) (fun r u H locs hr hP hD hS => ?_)
  · have hP : gP Γ ((o, oC Γ og) :: wXo Γ a b rf f z F Z) H := gP_sw (w2 := [(o, oC Γ og)]) hP
    obtain ⟨k, hk, he⟩ := hp
    rcases k with _ | k
    · obtain rfl : xIA = E := Option.some.inj he
      refine vx_catch (own := RL) (name := xIA) (E := xIA) hown [] ⟨0, 8, 11, 15⟩ [] (by rw [htab]; rfl) (fun w hw => nomatch hw) rfl (by decide) (hts (.classLink RL 15 xIA) (by decide +kernel)) (va_Nw.use rfl hE.2.2.2.2.1) h3 h4 h5 ?_
      refine lv_astore_n (lv' := [(2, .ref q9), (0, .ref (a 34)), (1, .ref o)]) hx hb dL_rows_11 rfl hl (by decide) rfl (fun ls hl => ?_)
      refine lv_iconst (v := nI 1) hx hb dL_rows_12 (by decide) ?_
      exact vx_ret (W.iret (v := nI 1) hx hb hrt (fun t9 ht9 hW9 => ⟨⟨_, ((f, z, F, Z), og), rfl, HO.bad hk (by decide) hX, by rw [ht9]; exact hP, va_K.moved hW9.alike hK, hD⟩, hS.F ht9⟩) hS.2.2 dL_rows_13 hlk)
    · exact absurd he (by simp)
  · obtain ⟨hk0, hr, hX1⟩ := hr
    subst hr
    have hP : gP Γ ((o, oC Γ og) :: wXo Γ a b rf u.1 u.2.1 u.2.2.1 u.2.2.2) H := gP_sw (w2 := [(o, oC Γ og)]) hP
    have hD : va_D A ((o, oC Γ og) :: wXo Γ a b rf u.1 u.2.1 u.2.2.1 u.2.2.2) := gD_sw (w2 := [(o, oC Γ og)]) hD
    refine lv_i2l (v := (nI (cmeN σ bb nb)).toInt64) hx hb dL_rows_6 rfl ?_
    refine va_last hx hb hK hP hD hS 0 2 rfl rfl (vp_in_nI (by omega) (by omega)) dL_rows_7 (fun H locs hP hD hS => ?_)
    have ec : (nI 0).toNatClampNeg = 0 := nI_clamp (by omega)
    rw [ec] at hP hD
    clear ec
    refine lv_goto (tgt := 14) hx hb dL_rows_8 (by decide) ?_
    refine lv_iconst (v := nI 0) hx hb dL_rows_14 (by decide) ?_
    exact vx_ret (W.iret (v := nI 0) hx hb hrt (fun t9 ht9 hW9 => ⟨⟨_, (u, vp_updL og 0 (nI (cmeN σ bb nb)).toInt64), rfl, HO.ok hk0 rfl (oC_0 og (nI (cmeN σ bb nb)).toInt64) hX1, by rw [ht9]; exact hP, va_K.moved hW9.alike hK, hD⟩, hS.F ht9⟩) hS.2.2 dL_rows_15 hlk)

abbrev rm_L_undo : Room := { frames := 7, cells := 1, slots := 6, locals := 128 }
theorem k_L_undo : CalH yL_undo wsL_undo rm_L_undo cL_undo 3 (some .int) [(0, 8, 11, 17)] 2 1 6 := ⟨⟨_, rfl⟩, rfl, rfl, by decide +kernel⟩
set_option maxHeartbeats 4000000 in
set_option maxRecDepth 100000 in
theorem m_L_undo (l : Launch) (hfl : l.stackTraces = false) (Γ : Gm) (sz : Nat) (a : Nat → Nat) (b : Nat → Nat → Nat) (rf : Nat → Option Nat) (hrf : ∀ i, i < 6 → rf i = some (b i 0)) (f : Nat → Nat → Int32) (z : Nat → Int32) (F : Nat → Nat → Nat → Int32) (Z : Nat → Nat → Int32) (σ : Nat → Nat) (sc : Nat) (ss : Nat → Nat → Nat) (nb : Nat) (bb : Nat → Nat) (hX : XR σ sc ss nb bb f z F Z) (o : Nat) (og : Nat → Int64)  : vx_Met l yL_undo wsL_undo rm_L_undo (va_Pc [.ref (a 34), .ref o] (wsE Γ sz ((o, oC Γ og) :: wXo Γ a b rf f z F Z))) (va_Qi (S := WtL) (fun r u => HO (unC sc) r (nI (sc - 1)) (XR (ss (sc - 1)) (sc - 1) ss nb bb u.1.1 u.1.2.1 u.1.2.2.1 u.1.2.2.2) (XR σ sc ss nb bb u.1.1 u.1.2.1 u.1.2.2.1 u.1.2.2.2) (u.2 0)) (fun u t => wd Γ (va_A ((o, oC Γ og) :: wXo Γ a b rf f z F Z) sz) ((o, oC Γ u.2) :: wXo Γ a b rf u.1.1 u.1.2.1 u.1.2.2.1 u.1.2.2.2) t) (va_A ((o, oC Γ og) :: wXo Γ a b rf f z F Z) sz)) (xX sz (fun _ => False)) 1 6 (va_A ((o, oC Γ og) :: wXo Γ a b rf f z F Z) sz) := by
  refine mH (cc := cL_undo) (maxL := 3) (ret := some .int) (own := RL) (by decide) rfl rfl (Nat.le_of_ble_eq_true rfl) ?_
  intro p e s m args below meth c S hrt hlk htab hsz hE hK hP hD hA hS ls hl
  subst hsz
  generalize hAe : va_A ((o, oC Γ og) :: wXo Γ a b rf f z F Z) s.heap.size = A at hE hD hA hS ⊢
  obtain ⟨hx, hb, hml, hown, hts⟩ := id S
  have hl : lv_has ls 3 [(0, .ref (a 34)), (1, .ref o)] := hl
  refine lv_aload_n hx hb dL_undo_0 rfl (lv_at hl 1 rfl) ?_
  refine lv_iconst (v := nI 0) hx hb dL_undo_1 (by decide) ?_
  refine lv_aload_n hx hb dL_undo_2 rfl (lv_at hl 0 rfl) ?_
  refine xWi (As := []) (rest := [.int (nI 0), .ref o]) (wr := [(o, oC Γ og)]) (m_X8_undo l Γ _ hfl a b rf hrf f z F Z σ sc ss nb bb hX ) hE S k_X8_undo gL_undo_X8_undo rfl ⟨(Nat.le_of_ble_eq_true rfl), (Nat.le_of_ble_eq_true rfl)⟩ hK (gP_sw (w1 := [(o, oC Γ og)]) hP) (gD_sw (w1 := [(o, oC Γ og)]) hD) hS hA 0 (ci := 8) rfl rfl rfl rfl hl.1 (Nat.le_of_ble_eq_true rfl) rfl dL_undo_3 ⟨(Nat.le_of_ble_eq_true rfl), (Nat.le_of_ble_eq_true rfl)⟩ (fun E ce q9 H locs hp hP hS h1 h2 h3 h4 h5 => ?_) (fun r u H locs hr hP hD hS => ?_)
  · have hP : gP Γ ((o, oC Γ og) :: wXo Γ a b rf f z F Z) H := gP_sw (w2 := [(o, oC Γ og)]) hP
    obtain ⟨k, hk, he⟩ := hp
    rcases k with _ | k
    · obtain rfl : xIS = E := Option.some.inj he
      refine vx_catch (own := RL) (name := xIS) (E := xIS) hown [] ⟨0, 8, 11, 17⟩ [] (by rw [htab]; rfl) (fun w hw => nomatch hw) rfl (by decide) (hts (.classLink RL 17 xIS) (by decide +kernel)) (va_Nw.use rfl hE.2.2.2.2.2.1) h3 h4 h5 ?_
      refine lv_astore_n (lv' := [(2, .ref q9), (0, .ref (a 34)), (1, .ref o)]) hx hb dL_undo_11 rfl hl (by decide) rfl (fun ls hl => ?_)
      refine lv_iconst (v := nI 1) hx hb dL_undo_12 (by decide) ?_
      exact vx_ret (W.iret (v := nI 1) hx hb hrt (fun t9 ht9 hW9 => ⟨⟨_, ((f, z, F, Z), og), rfl, HO.bad hk (by decide) hX, by rw [ht9]; exact hP, va_K.moved hW9.alike hK, hD⟩, hS.F ht9⟩) hS.2.2 dL_undo_13 hlk)
    · exact absurd he (by simp)
  · obtain ⟨hk0, hr, hX1⟩ := hr
    subst hr
    have hP : gP Γ ((o, oC Γ og) :: wXo Γ a b rf u.1 u.2.1 u.2.2.1 u.2.2.2) H := gP_sw (w2 := [(o, oC Γ og)]) hP
    have hD : va_D A ((o, oC Γ og) :: wXo Γ a b rf u.1 u.2.1 u.2.2.1 u.2.2.2) := gD_sw (w2 := [(o, oC Γ og)]) hD
    refine lv_i2l (v := (nI (sc - 1)).toInt64) hx hb dL_undo_6 rfl ?_
    refine va_last hx hb hK hP hD hS 0 2 rfl rfl (vp_in_nI (by omega) (by omega)) dL_undo_7 (fun H locs hP hD hS => ?_)
    have ec : (nI 0).toNatClampNeg = 0 := nI_clamp (by omega)
    rw [ec] at hP hD
    clear ec
    refine lv_goto (tgt := 14) hx hb dL_undo_8 (by decide) ?_
    refine lv_iconst (v := nI 0) hx hb dL_undo_14 (by decide) ?_
    exact vx_ret (W.iret (v := nI 0) hx hb hrt (fun t9 ht9 hW9 => ⟨⟨_, (u, vp_updL og 0 (nI (sc - 1)).toInt64), rfl, HO.ok hk0 rfl (oC_0 og (nI (sc - 1)).toInt64) hX1, by rw [ht9]; exact hP, va_K.moved hW9.alike hK, hD⟩, hS.F ht9⟩) hS.2.2 dL_undo_15 hlk)

abbrev rm_L_rowOf : Room := { frames := 8, cells := 2, slots := 12, locals := 133 }
theorem k_L_rowOf : CalH yL_rowOf wsL_rowOf rm_L_rowOf cL_rowOf 5 (some .int) [(0, 10, 13, 13), (0, 10, 17, 15)] 4 2 12 := ⟨⟨_, rfl⟩, rfl, rfl, by decide +kernel⟩
set_option maxHeartbeats 4000000 in
set_option maxRecDepth 100000 in
theorem m_L_rowOf (l : Launch) (hfl : l.stackTraces = false) (Γ : Gm) (sz : Nat) (a : Nat → Nat) (b : Nat → Nat → Nat) (rf : Nat → Option Nat) (hrf : ∀ i, i < 6 → rf i = some (b i 0)) (f : Nat → Nat → Int32) (z : Nat → Int32) (F : Nat → Nat → Nat → Int32) (Z : Nat → Nat → Int32) (σ : Nat → Nat) (sc : Nat) (ss : Nat → Nat → Nat) (nb : Nat) (bb : Nat → Nat) (hX : XR σ sc ss nb bb f z F Z) (o : Nat) (og : Nat → Int64) (ix iw : Int32) : vx_Met l yL_rowOf wsL_rowOf rm_L_rowOf (va_Pc [.ref (a 34), .int ix, .int iw, .ref o] (wsE Γ sz ((o, oC Γ og) :: wXo Γ a b rf f z F Z))) (va_Qi (S := WtL) (fun r u => HO (rwC σ ix iw) r (nI (rowN σ ix.toNatClampNeg iw.toNatClampNeg)) (XR σ sc ss nb bb u.1.1 u.1.2.1 u.1.2.2.1 u.1.2.2.2) (XR σ sc ss nb bb u.1.1 u.1.2.1 u.1.2.2.1 u.1.2.2.2) (u.2 0)) (fun u t => wd Γ (va_A ((o, oC Γ og) :: wXo Γ a b rf f z F Z) sz) ((o, oC Γ u.2) :: wXo Γ a b rf u.1.1 u.1.2.1 u.1.2.2.1 u.1.2.2.2) t) (va_A ((o, oC Γ og) :: wXo Γ a b rf f z F Z) sz)) (xX sz (fun _ => False)) 2 12 (va_A ((o, oC Γ og) :: wXo Γ a b rf f z F Z) sz) := by
  refine mH (cc := cL_rowOf) (maxL := 5) (ret := some .int) (own := RL) (by decide) rfl rfl (Nat.le_of_ble_eq_true rfl) ?_
  intro p e s m args below meth c S hrt hlk htab hsz hE hK hP hD hA hS ls hl
  subst hsz
  generalize hAe : va_A ((o, oC Γ og) :: wXo Γ a b rf f z F Z) s.heap.size = A at hE hD hA hS ⊢
  obtain ⟨hx, hb, hml, hown, hts⟩ := id S
  have hl : lv_has ls 5 [(0, .ref (a 34)), (1, .int ix), (2, .int iw), (3, .ref o)] := hl
  refine lv_aload_n hx hb dL_rowOf_0 rfl (lv_at hl 3 rfl) ?_
  refine lv_iconst (v := nI 0) hx hb dL_rowOf_1 (by decide) ?_
  refine lv_aload_n hx hb dL_rowOf_2 rfl (lv_at hl 0 rfl) ?_
  refine lv_iload_n hx hb dL_rowOf_3 rfl (lv_at hl 1 rfl) ?_
  refine lv_iload_n hx hb dL_rowOf_4 rfl (lv_at hl 2 rfl) ?_
  refine eWi (As := [.int ix, .int iw]) (rest := [.int (nI 0), .ref o]) (wr := [(o, oC Γ og)]) (m_X8_rowOf l Γ _ hfl a b rf f z F Z σ hX.1 hX.2.1 ix iw) hE S k_X8_rowOf gL_rowOf_X8_rowOf rfl ⟨(Nat.le_of_ble_eq_true rfl), (Nat.le_of_ble_eq_true rfl)⟩ hK (gP_sw (w1 := [(o, oC Γ og)]) hP) hS hA 0 (ci := 8) rfl rfl rfl rfl hl.1 (Nat.le_of_ble_eq_true rfl) rfl dL_rowOf_5 ⟨(Nat.le_of_ble_eq_true rfl), (Nat.le_of_ble_eq_true rfl)⟩ (fun E ce q9 H locs hp hP hS h3 h4 h5 => ?_) (fun r H locs hr hP hS => ?_)
  · have hP : gP Γ ((o, oC Γ og) :: wXo Γ a b rf f z F Z) H := gP_sw (w2 := [(o, oC Γ og)]) hP
    obtain ⟨k, hk, he⟩ := hp
    rcases k with _ | _ | k
    · obtain rfl : xIO = E := Option.some.inj he
      refine vx_catch (own := RL) (name := xIO) (E := xIO) hown [] ⟨0, 10, 13, 13⟩ [⟨0, 10, 17, 15⟩] (by rw [htab]; rfl) (fun w hw => nomatch hw) rfl (by decide) (hts (.classLink RL 13 xIO) (by decide +kernel)) (va_Nw.use rfl hE.2.2.2.1) h3 h4 h5 ?_
      refine lv_astore (lv' := [(4, .ref q9), (0, .ref (a 34)), (1, .int ix), (2, .int iw), (3, .ref o)]) hx hb dL_rowOf_13 hl (by decide) rfl (fun ls hl => ?_)
      refine lv_iconst (v := nI 1) hx hb dL_rowOf_15 (by decide) ?_
      exact vx_ret (W.iret (v := nI 1) hx hb hrt (fun t9 ht9 hW9 => ⟨⟨_, ((f, z, F, Z), og), rfl, HO.bad hk (by decide) hX, by rw [ht9]; exact hP, va_K.moved hW9.alike hK, hD⟩, hS.F ht9⟩) hS.2.2 dL_rowOf_16 hlk)
    · obtain rfl : xIA = E := Option.some.inj he
      refine vx_catch (own := RL) (name := xIA) (E := xIA) hown [⟨0, 10, 13, 13⟩] ⟨0, 10, 17, 15⟩ [] (by rw [htab]; rfl) (fun w hw => by rw [List.mem_singleton] at hw; subst hw; exact Or.inr ⟨by decide, xIO, hts (.classLink RL 13 xIO) (by decide +kernel), hE.2.2.2.2.2.2.1⟩) rfl (by decide) (hts (.classLink RL 15 xIA) (by decide +kernel)) (va_Nw.use rfl hE.2.2.2.2.1) h3 h4 h5 ?_
      refine lv_astore (lv' := [(4, .ref q9), (0, .ref (a 34)), (1, .int ix), (2, .int iw), (3, .ref o)]) hx hb dL_rowOf_17 hl (by decide) rfl (fun ls hl => ?_)
      refine lv_iconst (v := nI 2) hx hb dL_rowOf_19 (by decide) ?_
      exact vx_ret (W.iret (v := nI 2) hx hb hrt (fun t9 ht9 hW9 => ⟨⟨_, ((f, z, F, Z), og), rfl, HO.bad hk (by decide) hX, by rw [ht9]; exact hP, va_K.moved hW9.alike hK, hD⟩, hS.F ht9⟩) hS.2.2 dL_rowOf_20 hlk)
    · exact absurd he (by simp)
  · obtain ⟨hk0, hr⟩ := hr
    subst hr
    have hP : gP Γ ((o, oC Γ og) :: wXo Γ a b rf f z F Z) H := gP_sw (w2 := [(o, oC Γ og)]) hP
    refine lv_i2l (v := (nI (rowN σ ix.toNatClampNeg iw.toNatClampNeg)).toInt64) hx hb dL_rowOf_8 rfl ?_
    refine va_last hx hb hK hP hD hS 0 2 rfl rfl (vp_in_nI (by omega) (by omega)) dL_rowOf_9 (fun H locs hP hD hS => ?_)
    have ec : (nI 0).toNatClampNeg = 0 := nI_clamp (by omega)
    rw [ec] at hP hD
    clear ec
    refine lv_goto (tgt := 21) hx hb dL_rowOf_10 (by decide) ?_
    refine lv_iconst (v := nI 0) hx hb dL_rowOf_21 (by decide) ?_
    exact vx_ret (W.iret (v := nI 0) hx hb hrt (fun t9 ht9 hW9 => ⟨⟨_, ((f, z, F, Z), vp_updL og 0 (nI (rowN σ ix.toNatClampNeg iw.toNatClampNeg)).toInt64), rfl, HO.ok hk0 rfl (oC_0 og (nI (rowN σ ix.toNatClampNeg iw.toNatClampNeg)).toInt64) hX, by rw [ht9]; exact hP, va_K.moved hW9.alike hK, hD⟩, hS.F ht9⟩) hS.2.2 dL_rowOf_22 hlk)

abbrev rm_L_personOf : Room := { frames := 8, cells := 2, slots := 12, locals := 139 }
theorem k_L_personOf : CalH yL_personOf wsL_personOf rm_L_personOf cL_personOf 5 (some .int) [(0, 10, 13, 13), (0, 10, 17, 15)] 4 2 12 := ⟨⟨_, rfl⟩, rfl, rfl, by decide +kernel⟩
set_option maxHeartbeats 4000000 in
set_option maxRecDepth 100000 in
theorem m_L_personOf (l : Launch) (hfl : l.stackTraces = false) (Γ : Gm) (sz : Nat) (a : Nat → Nat) (b : Nat → Nat → Nat) (rf : Nat → Option Nat) (hrf : ∀ i, i < 6 → rf i = some (b i 0)) (f : Nat → Nat → Int32) (z : Nat → Int32) (F : Nat → Nat → Nat → Int32) (Z : Nat → Nat → Int32) (σ : Nat → Nat) (sc : Nat) (ss : Nat → Nat → Nat) (nb : Nat) (bb : Nat → Nat) (hX : XR σ sc ss nb bb f z F Z) (o : Nat) (og : Nat → Int64) (ip iw : Int32) : vx_Met l yL_personOf wsL_personOf rm_L_personOf (va_Pc [.ref (a 34), .int ip, .int iw, .ref o] (wsE Γ sz ((o, oC Γ og) :: wXo Γ a b rf f z F Z))) (va_Qi (S := WtL) (fun r u => HO (peC ip iw) r (perN σ ip.toNatClampNeg iw.toNatClampNeg) (XR σ sc ss nb bb u.1.1 u.1.2.1 u.1.2.2.1 u.1.2.2.2) (XR σ sc ss nb bb u.1.1 u.1.2.1 u.1.2.2.1 u.1.2.2.2) (u.2 0)) (fun u t => wd Γ (va_A ((o, oC Γ og) :: wXo Γ a b rf f z F Z) sz) ((o, oC Γ u.2) :: wXo Γ a b rf u.1.1 u.1.2.1 u.1.2.2.1 u.1.2.2.2) t) (va_A ((o, oC Γ og) :: wXo Γ a b rf f z F Z) sz)) (xX sz (fun _ => False)) 2 12 (va_A ((o, oC Γ og) :: wXo Γ a b rf f z F Z) sz) := by
  refine mH (cc := cL_personOf) (maxL := 5) (ret := some .int) (own := RL) (by decide) rfl rfl (Nat.le_of_ble_eq_true rfl) ?_
  intro p e s m args below meth c S hrt hlk htab hsz hE hK hP hD hA hS ls hl
  subst hsz
  generalize hAe : va_A ((o, oC Γ og) :: wXo Γ a b rf f z F Z) s.heap.size = A at hE hD hA hS ⊢
  obtain ⟨hx, hb, hml, hown, hts⟩ := id S
  have hl : lv_has ls 5 [(0, .ref (a 34)), (1, .int ip), (2, .int iw), (3, .ref o)] := hl
  refine lv_aload_n hx hb dL_personOf_0 rfl (lv_at hl 3 rfl) ?_
  refine lv_iconst (v := nI 0) hx hb dL_personOf_1 (by decide) ?_
  refine lv_aload_n hx hb dL_personOf_2 rfl (lv_at hl 0 rfl) ?_
  refine lv_iload_n hx hb dL_personOf_3 rfl (lv_at hl 1 rfl) ?_
  refine lv_iload_n hx hb dL_personOf_4 rfl (lv_at hl 2 rfl) ?_
  refine eWi (As := [.int ip, .int iw]) (rest := [.int (nI 0), .ref o]) (wr := [(o, oC Γ og)]) (m_X8_personOf l Γ _ hfl a b rf f z F Z σ hX.1 hX.2.1 ip iw) hE S k_X8_personOf gL_personOf_X8_personOf rfl ⟨(Nat.le_of_ble_eq_true rfl), (Nat.le_of_ble_eq_true rfl)⟩ hK (gP_sw (w1 := [(o, oC Γ og)]) hP) hS hA 0 (ci := 8) rfl rfl rfl rfl hl.1 (Nat.le_of_ble_eq_true rfl) rfl dL_personOf_5 ⟨(Nat.le_of_ble_eq_true rfl), (Nat.le_of_ble_eq_true rfl)⟩ (fun E ce q9 H locs hp hP hS h3 h4 h5 => ?_) (fun r H locs hr hP hS => ?_)
  · have hP : gP Γ ((o, oC Γ og) :: wXo Γ a b rf f z F Z) H := gP_sw (w2 := [(o, oC Γ og)]) hP
    obtain ⟨k, hk, he⟩ := hp
    rcases k with _ | _ | k
    · obtain rfl : xIO = E := Option.some.inj he
      refine vx_catch (own := RL) (name := xIO) (E := xIO) hown [] ⟨0, 10, 13, 13⟩ [⟨0, 10, 17, 15⟩] (by rw [htab]; rfl) (fun w hw => nomatch hw) rfl (by decide) (hts (.classLink RL 13 xIO) (by decide +kernel)) (va_Nw.use rfl hE.2.2.2.1) h3 h4 h5 ?_
      refine lv_astore (lv' := [(4, .ref q9), (0, .ref (a 34)), (1, .int ip), (2, .int iw), (3, .ref o)]) hx hb dL_personOf_13 hl (by decide) rfl (fun ls hl => ?_)
      refine lv_iconst (v := nI 1) hx hb dL_personOf_15 (by decide) ?_
      exact vx_ret (W.iret (v := nI 1) hx hb hrt (fun t9 ht9 hW9 => ⟨⟨_, ((f, z, F, Z), og), rfl, HO.bad hk (by decide) hX, by rw [ht9]; exact hP, va_K.moved hW9.alike hK, hD⟩, hS.F ht9⟩) hS.2.2 dL_personOf_16 hlk)
    · obtain rfl : xIA = E := Option.some.inj he
      refine vx_catch (own := RL) (name := xIA) (E := xIA) hown [⟨0, 10, 13, 13⟩] ⟨0, 10, 17, 15⟩ [] (by rw [htab]; rfl) (fun w hw => by rw [List.mem_singleton] at hw; subst hw; exact Or.inr ⟨by decide, xIO, hts (.classLink RL 13 xIO) (by decide +kernel), hE.2.2.2.2.2.2.1⟩) rfl (by decide) (hts (.classLink RL 15 xIA) (by decide +kernel)) (va_Nw.use rfl hE.2.2.2.2.1) h3 h4 h5 ?_
      refine lv_astore (lv' := [(4, .ref q9), (0, .ref (a 34)), (1, .int ip), (2, .int iw), (3, .ref o)]) hx hb dL_personOf_17 hl (by decide) rfl (fun ls hl => ?_)
      refine lv_iconst (v := nI 2) hx hb dL_personOf_19 (by decide) ?_
      exact vx_ret (W.iret (v := nI 2) hx hb hrt (fun t9 ht9 hW9 => ⟨⟨_, ((f, z, F, Z), og), rfl, HO.bad hk (by decide) hX, by rw [ht9]; exact hP, va_K.moved hW9.alike hK, hD⟩, hS.F ht9⟩) hS.2.2 dL_personOf_20 hlk)
    · exact absurd he (by simp)
  · obtain ⟨hk0, hr⟩ := hr
    subst hr
    have hP : gP Γ ((o, oC Γ og) :: wXo Γ a b rf f z F Z) H := gP_sw (w2 := [(o, oC Γ og)]) hP
    refine lv_i2l (v := (perN σ ip.toNatClampNeg iw.toNatClampNeg).toInt64) hx hb dL_personOf_8 rfl ?_
    refine va_last hx hb hK hP hD hS 0 2 rfl rfl (vp_in_nI (by omega) (by omega)) dL_personOf_9 (fun H locs hP hD hS => ?_)
    have ec : (nI 0).toNatClampNeg = 0 := nI_clamp (by omega)
    rw [ec] at hP hD
    clear ec
    refine lv_goto (tgt := 21) hx hb dL_personOf_10 (by decide) ?_
    refine lv_iconst (v := nI 0) hx hb dL_personOf_21 (by decide) ?_
    exact vx_ret (W.iret (v := nI 0) hx hb hrt (fun t9 ht9 hW9 => ⟨⟨_, ((f, z, F, Z), vp_updL og 0 (perN σ ip.toNatClampNeg iw.toNatClampNeg).toInt64), rfl, HO.ok hk0 rfl (oC_0 og (perN σ ip.toNatClampNeg iw.toNatClampNeg).toInt64) hX, by rw [ht9]; exact hP, va_K.moved hW9.alike hK, hD⟩, hS.F ht9⟩) hS.2.2 dL_personOf_22 hlk)

abbrev rm_L_veils : Room := { frames := 8, cells := 2, slots := 12, locals := 133 }
theorem k_L_veils : CalH yL_veils wsL_veils rm_L_veils cL_veils 5 (some .int) [(0, 10, 13, 13)] 4 2 12 := ⟨⟨_, rfl⟩, rfl, rfl, by decide +kernel⟩
set_option maxHeartbeats 4000000 in
set_option maxRecDepth 100000 in
theorem m_L_veils (l : Launch) (hfl : l.stackTraces = false) (Γ : Gm) (sz : Nat) (a : Nat → Nat) (b : Nat → Nat → Nat) (rf : Nat → Option Nat) (hrf : ∀ i, i < 6 → rf i = some (b i 0)) (f : Nat → Nat → Int32) (z : Nat → Int32) (F : Nat → Nat → Nat → Int32) (Z : Nat → Nat → Int32) (σ : Nat → Nat) (sc : Nat) (ss : Nat → Nat → Nat) (nb : Nat) (bb : Nat → Nat) (hX : XR σ sc ss nb bb f z F Z) (o : Nat) (og : Nat → Int64) (ip ix : Int32) : vx_Met l yL_veils wsL_veils rm_L_veils (va_Pc [.ref (a 34), .int ip, .int ix, .ref o] (wsE Γ sz ((o, oC Γ og) :: wXo Γ a b rf f z F Z))) (va_Qi (S := WtL) (fun r u => HO (veC σ ip ix) r (nI (vmk σ ip.toNatClampNeg ix.toNatClampNeg)) (XR σ sc ss nb bb u.1.1 u.1.2.1 u.1.2.2.1 u.1.2.2.2) (XR σ sc ss nb bb u.1.1 u.1.2.1 u.1.2.2.1 u.1.2.2.2) (u.2 0)) (fun u t => wd Γ (va_A ((o, oC Γ og) :: wXo Γ a b rf f z F Z) sz) ((o, oC Γ u.2) :: wXo Γ a b rf u.1.1 u.1.2.1 u.1.2.2.1 u.1.2.2.2) t) (va_A ((o, oC Γ og) :: wXo Γ a b rf f z F Z) sz)) (xX sz (fun _ => False)) 2 12 (va_A ((o, oC Γ og) :: wXo Γ a b rf f z F Z) sz) := by
  refine mH (cc := cL_veils) (maxL := 5) (ret := some .int) (own := RL) (by decide) rfl rfl (Nat.le_of_ble_eq_true rfl) ?_
  intro p e s m args below meth c S hrt hlk htab hsz hE hK hP hD hA hS ls hl
  subst hsz
  generalize hAe : va_A ((o, oC Γ og) :: wXo Γ a b rf f z F Z) s.heap.size = A at hE hD hA hS ⊢
  obtain ⟨hx, hb, hml, hown, hts⟩ := id S
  have hl : lv_has ls 5 [(0, .ref (a 34)), (1, .int ip), (2, .int ix), (3, .ref o)] := hl
  refine lv_aload_n hx hb dL_veils_0 rfl (lv_at hl 3 rfl) ?_
  refine lv_iconst (v := nI 0) hx hb dL_veils_1 (by decide) ?_
  refine lv_aload_n hx hb dL_veils_2 rfl (lv_at hl 0 rfl) ?_
  refine lv_iload_n hx hb dL_veils_3 rfl (lv_at hl 1 rfl) ?_
  refine lv_iload_n hx hb dL_veils_4 rfl (lv_at hl 2 rfl) ?_
  refine eWi (As := [.int ip, .int ix]) (rest := [.int (nI 0), .ref o]) (wr := [(o, oC Γ og)]) (m_X8_veils l Γ _ hfl a b rf f z F Z σ hX.1 hX.2.1 ip ix) hE S k_X8_veils gL_veils_X8_veils rfl ⟨(Nat.le_of_ble_eq_true rfl), (Nat.le_of_ble_eq_true rfl)⟩ hK (gP_sw (w1 := [(o, oC Γ og)]) hP) hS hA 0 (ci := 8) rfl rfl rfl rfl hl.1 (Nat.le_of_ble_eq_true rfl) rfl dL_veils_5 ⟨(Nat.le_of_ble_eq_true rfl), (Nat.le_of_ble_eq_true rfl)⟩ (fun E ce q9 H locs hp hP hS h3 h4 h5 => ?_) (fun r H locs hr hP hS => ?_)
  · have hP : gP Γ ((o, oC Γ og) :: wXo Γ a b rf f z F Z) H := gP_sw (w2 := [(o, oC Γ og)]) hP
    obtain ⟨k, hk, he⟩ := hp
    rcases k with _ | k
    · obtain rfl : xIO = E := Option.some.inj he
      refine vx_catch (own := RL) (name := xIO) (E := xIO) hown [] ⟨0, 10, 13, 13⟩ [] (by rw [htab]; rfl) (fun w hw => nomatch hw) rfl (by decide) (hts (.classLink RL 13 xIO) (by decide +kernel)) (va_Nw.use rfl hE.2.2.2.1) h3 h4 h5 ?_
      refine lv_astore (lv' := [(4, .ref q9), (0, .ref (a 34)), (1, .int ip), (2, .int ix), (3, .ref o)]) hx hb dL_veils_13 hl (by decide) rfl (fun ls hl => ?_)
      refine lv_iconst (v := nI 1) hx hb dL_veils_15 (by decide) ?_
      exact vx_ret (W.iret (v := nI 1) hx hb hrt (fun t9 ht9 hW9 => ⟨⟨_, ((f, z, F, Z), og), rfl, HO.bad hk (by decide) hX, by rw [ht9]; exact hP, va_K.moved hW9.alike hK, hD⟩, hS.F ht9⟩) hS.2.2 dL_veils_16 hlk)
    · exact absurd he (by simp)
  · obtain ⟨hk0, hr⟩ := hr
    subst hr
    have hP : gP Γ ((o, oC Γ og) :: wXo Γ a b rf f z F Z) H := gP_sw (w2 := [(o, oC Γ og)]) hP
    refine lv_i2l (v := (nI (vmk σ ip.toNatClampNeg ix.toNatClampNeg)).toInt64) hx hb dL_veils_8 rfl ?_
    refine va_last hx hb hK hP hD hS 0 2 rfl rfl (vp_in_nI (by omega) (by omega)) dL_veils_9 (fun H locs hP hD hS => ?_)
    have ec : (nI 0).toNatClampNeg = 0 := nI_clamp (by omega)
    rw [ec] at hP hD
    clear ec
    refine lv_goto (tgt := 17) hx hb dL_veils_10 (by decide) ?_
    refine lv_iconst (v := nI 0) hx hb dL_veils_17 (by decide) ?_
    exact vx_ret (W.iret (v := nI 0) hx hb hrt (fun t9 ht9 hW9 => ⟨⟨_, ((f, z, F, Z), vp_updL og 0 (nI (vmk σ ip.toNatClampNeg ix.toNatClampNeg)).toInt64), rfl, HO.ok hk0 rfl (oC_0 og (nI (vmk σ ip.toNatClampNeg ix.toNatClampNeg)).toInt64) hX, by rw [ht9]; exact hP, va_K.moved hW9.alike hK, hD⟩, hS.F ht9⟩) hS.2.2 dL_veils_18 hlk)

abbrev rm_L_remembered : Room := { frames := 8, cells := 2, slots := 12, locals := 132 }
theorem k_L_remembered : CalH yL_remembered wsL_remembered rm_L_remembered cL_remembered 5 (some .int) [(0, 10, 13, 13), (0, 10, 17, 15)] 4 2 12 := ⟨⟨_, rfl⟩, rfl, rfl, by decide +kernel⟩
set_option maxHeartbeats 4000000 in
set_option maxRecDepth 100000 in
theorem m_L_remembered (l : Launch) (hfl : l.stackTraces = false) (Γ : Gm) (sz : Nat) (a : Nat → Nat) (b : Nat → Nat → Nat) (rf : Nat → Option Nat) (hrf : ∀ i, i < 6 → rf i = some (b i 0)) (f : Nat → Nat → Int32) (z : Nat → Int32) (F : Nat → Nat → Nat → Int32) (Z : Nat → Nat → Int32) (σ : Nat → Nat) (sc : Nat) (ss : Nat → Nat → Nat) (nb : Nat) (bb : Nat → Nat) (hX : XR σ sc ss nb bb f z F Z) (o : Nat) (og : Nat → Int64) (ip ik : Int32) : vx_Met l yL_remembered wsL_remembered rm_L_remembered (va_Pc [.ref (a 34), .int ip, .int ik, .ref o] (wsE Γ sz ((o, oC Γ og) :: wXo Γ a b rf f z F Z))) (va_Qi (S := WtL) (fun r u => HO (reC ip ik) r (remV σ ip.toNatClampNeg ik.toNatClampNeg) (XR σ sc ss nb bb u.1.1 u.1.2.1 u.1.2.2.1 u.1.2.2.2) (XR σ sc ss nb bb u.1.1 u.1.2.1 u.1.2.2.1 u.1.2.2.2) (u.2 0)) (fun u t => wd Γ (va_A ((o, oC Γ og) :: wXo Γ a b rf f z F Z) sz) ((o, oC Γ u.2) :: wXo Γ a b rf u.1.1 u.1.2.1 u.1.2.2.1 u.1.2.2.2) t) (va_A ((o, oC Γ og) :: wXo Γ a b rf f z F Z) sz)) (xX sz (fun _ => False)) 2 12 (va_A ((o, oC Γ og) :: wXo Γ a b rf f z F Z) sz) := by
  refine mH (cc := cL_remembered) (maxL := 5) (ret := some .int) (own := RL) (by decide) rfl rfl (Nat.le_of_ble_eq_true rfl) ?_
  intro p e s m args below meth c S hrt hlk htab hsz hE hK hP hD hA hS ls hl
  subst hsz
  generalize hAe : va_A ((o, oC Γ og) :: wXo Γ a b rf f z F Z) s.heap.size = A at hE hD hA hS ⊢
  obtain ⟨hx, hb, hml, hown, hts⟩ := id S
  have hl : lv_has ls 5 [(0, .ref (a 34)), (1, .int ip), (2, .int ik), (3, .ref o)] := hl
  refine lv_aload_n hx hb dL_remembered_0 rfl (lv_at hl 3 rfl) ?_
  refine lv_iconst (v := nI 0) hx hb dL_remembered_1 (by decide) ?_
  refine lv_aload_n hx hb dL_remembered_2 rfl (lv_at hl 0 rfl) ?_
  refine lv_iload_n hx hb dL_remembered_3 rfl (lv_at hl 1 rfl) ?_
  refine lv_iload_n hx hb dL_remembered_4 rfl (lv_at hl 2 rfl) ?_
  refine eWi (As := [.int ip, .int ik]) (rest := [.int (nI 0), .ref o]) (wr := [(o, oC Γ og)]) (m_X8_remembered l Γ _ hfl a b rf f z F Z σ hX.1 hX.2.1 ip ik) hE S k_X8_remembered gL_remembered_X8_remembered rfl ⟨(Nat.le_of_ble_eq_true rfl), (Nat.le_of_ble_eq_true rfl)⟩ hK (gP_sw (w1 := [(o, oC Γ og)]) hP) hS hA 0 (ci := 8) rfl rfl rfl rfl hl.1 (Nat.le_of_ble_eq_true rfl) rfl dL_remembered_5 ⟨(Nat.le_of_ble_eq_true rfl), (Nat.le_of_ble_eq_true rfl)⟩ (fun E ce q9 H locs hp hP hS h3 h4 h5 => ?_) (fun r H locs hr hP hS => ?_)
  · have hP : gP Γ ((o, oC Γ og) :: wXo Γ a b rf f z F Z) H := gP_sw (w2 := [(o, oC Γ og)]) hP
    obtain ⟨k, hk, he⟩ := hp
    rcases k with _ | _ | k
    · obtain rfl : xIO = E := Option.some.inj he
      refine vx_catch (own := RL) (name := xIO) (E := xIO) hown [] ⟨0, 10, 13, 13⟩ [⟨0, 10, 17, 15⟩] (by rw [htab]; rfl) (fun w hw => nomatch hw) rfl (by decide) (hts (.classLink RL 13 xIO) (by decide +kernel)) (va_Nw.use rfl hE.2.2.2.1) h3 h4 h5 ?_
      refine lv_astore (lv' := [(4, .ref q9), (0, .ref (a 34)), (1, .int ip), (2, .int ik), (3, .ref o)]) hx hb dL_remembered_13 hl (by decide) rfl (fun ls hl => ?_)
      refine lv_iconst (v := nI 1) hx hb dL_remembered_15 (by decide) ?_
      exact vx_ret (W.iret (v := nI 1) hx hb hrt (fun t9 ht9 hW9 => ⟨⟨_, ((f, z, F, Z), og), rfl, HO.bad hk (by decide) hX, by rw [ht9]; exact hP, va_K.moved hW9.alike hK, hD⟩, hS.F ht9⟩) hS.2.2 dL_remembered_16 hlk)
    · obtain rfl : xIA = E := Option.some.inj he
      refine vx_catch (own := RL) (name := xIA) (E := xIA) hown [⟨0, 10, 13, 13⟩] ⟨0, 10, 17, 15⟩ [] (by rw [htab]; rfl) (fun w hw => by rw [List.mem_singleton] at hw; subst hw; exact Or.inr ⟨by decide, xIO, hts (.classLink RL 13 xIO) (by decide +kernel), hE.2.2.2.2.2.2.1⟩) rfl (by decide) (hts (.classLink RL 15 xIA) (by decide +kernel)) (va_Nw.use rfl hE.2.2.2.2.1) h3 h4 h5 ?_
      refine lv_astore (lv' := [(4, .ref q9), (0, .ref (a 34)), (1, .int ip), (2, .int ik), (3, .ref o)]) hx hb dL_remembered_17 hl (by decide) rfl (fun ls hl => ?_)
      refine lv_iconst (v := nI 2) hx hb dL_remembered_19 (by decide) ?_
      exact vx_ret (W.iret (v := nI 2) hx hb hrt (fun t9 ht9 hW9 => ⟨⟨_, ((f, z, F, Z), og), rfl, HO.bad hk (by decide) hX, by rw [ht9]; exact hP, va_K.moved hW9.alike hK, hD⟩, hS.F ht9⟩) hS.2.2 dL_remembered_20 hlk)
    · exact absurd he (by simp)
  · obtain ⟨hk0, hr⟩ := hr
    subst hr
    have hP : gP Γ ((o, oC Γ og) :: wXo Γ a b rf f z F Z) H := gP_sw (w2 := [(o, oC Γ og)]) hP
    refine lv_i2l (v := (remV σ ip.toNatClampNeg ik.toNatClampNeg).toInt64) hx hb dL_remembered_8 rfl ?_
    refine va_last hx hb hK hP hD hS 0 2 rfl rfl (vp_in_nI (by omega) (by omega)) dL_remembered_9 (fun H locs hP hD hS => ?_)
    have ec : (nI 0).toNatClampNeg = 0 := nI_clamp (by omega)
    rw [ec] at hP hD
    clear ec
    refine lv_goto (tgt := 21) hx hb dL_remembered_10 (by decide) ?_
    refine lv_iconst (v := nI 0) hx hb dL_remembered_21 (by decide) ?_
    exact vx_ret (W.iret (v := nI 0) hx hb hrt (fun t9 ht9 hW9 => ⟨⟨_, ((f, z, F, Z), vp_updL og 0 (remV σ ip.toNatClampNeg ik.toNatClampNeg).toInt64), rfl, HO.ok hk0 rfl (oC_0 og (remV σ ip.toNatClampNeg ik.toNatClampNeg).toInt64) hX, by rw [ht9]; exact hP, va_K.moved hW9.alike hK, hD⟩, hS.F ht9⟩) hS.2.2 dL_remembered_22 hlk)

abbrev rm_L_count : Room := { frames := 7, cells := 1, slots := 6, locals := 159 }
theorem k_L_count : CalH yL_count wsL_count rm_L_count cL_count 4 (some .int) [(0, 9, 12, 15)] 3 1 6 := ⟨⟨_, rfl⟩, rfl, rfl, by decide +kernel⟩
set_option maxHeartbeats 4000000 in
set_option maxRecDepth 100000 in
theorem m_L_count (l : Launch) (hfl : l.stackTraces = false) (Γ : Gm) (sz : Nat) (a : Nat → Nat) (b : Nat → Nat → Nat) (rf : Nat → Option Nat) (hrf : ∀ i, i < 6 → rf i = some (b i 0)) (f : Nat → Nat → Int32) (z : Nat → Int32) (F : Nat → Nat → Nat → Int32) (Z : Nat → Nat → Int32) (σ : Nat → Nat) (sc : Nat) (ss : Nat → Nat → Nat) (nb : Nat) (bb : Nat → Nat) (hX : XR σ sc ss nb bb f z F Z) (o : Nat) (og : Nat → Int64) (iw : Int32) : vx_Met l yL_count wsL_count rm_L_count (va_Pc [.ref (a 34), .int iw, .ref o] (wsE Γ sz ((o, oC Γ og) :: wXo Γ a b rf f z F Z))) (va_Qi (S := WtL) (fun r u => HO (coC iw) r (cntQ σ (nI sc) iw.toNatClampNeg) (XR σ sc ss nb bb u.1.1 u.1.2.1 u.1.2.2.1 u.1.2.2.2) (XR σ sc ss nb bb u.1.1 u.1.2.1 u.1.2.2.1 u.1.2.2.2) (u.2 0)) (fun u t => wd Γ (va_A ((o, oC Γ og) :: wXo Γ a b rf f z F Z) sz) ((o, oC Γ u.2) :: wXo Γ a b rf u.1.1 u.1.2.1 u.1.2.2.1 u.1.2.2.2) t) (va_A ((o, oC Γ og) :: wXo Γ a b rf f z F Z) sz)) (xX sz (fun _ => False)) 1 6 (va_A ((o, oC Γ og) :: wXo Γ a b rf f z F Z) sz) := by
  refine mH (cc := cL_count) (maxL := 4) (ret := some .int) (own := RL) (by decide) rfl rfl (Nat.le_of_ble_eq_true rfl) ?_
  intro p e s m args below meth c S hrt hlk htab hsz hE hK hP hD hA hS ls hl
  subst hsz
  generalize hAe : va_A ((o, oC Γ og) :: wXo Γ a b rf f z F Z) s.heap.size = A at hE hD hA hS ⊢
  obtain ⟨hx, hb, hml, hown, hts⟩ := id S
  have hl : lv_has ls 4 [(0, .ref (a 34)), (1, .int iw), (2, .ref o)] := hl
  refine lv_aload_n hx hb dL_count_0 rfl (lv_at hl 2 rfl) ?_
  refine lv_iconst (v := nI 0) hx hb dL_count_1 (by decide) ?_
  refine lv_aload_n hx hb dL_count_2 rfl (lv_at hl 0 rfl) ?_
  refine lv_iload_n hx hb dL_count_3 rfl (lv_at hl 1 rfl) ?_
  refine eWi (As := [.int iw]) (rest := [.int (nI 0), .ref o]) (wr := [(o, oC Γ og)]) (m_X8_count l Γ _ hfl a b rf f z F Z σ hX.1 hX.2.1 iw) hE S k_X8_count gL_count_X8_count rfl ⟨(Nat.le_of_ble_eq_true rfl), (Nat.le_of_ble_eq_true rfl)⟩ hK (gP_sw (w1 := [(o, oC Γ og)]) hP) hS hA 0 (ci := 8) rfl rfl rfl rfl hl.1 (Nat.le_of_ble_eq_true rfl) rfl dL_count_4 ⟨(Nat.le_of_ble_eq_true rfl), (Nat.le_of_ble_eq_true rfl)⟩ (fun E ce q9 H locs hp hP hS h3 h4 h5 => ?_) (fun r H locs hr hP hS => ?_)
  · have hP : gP Γ ((o, oC Γ og) :: wXo Γ a b rf f z F Z) H := gP_sw (w2 := [(o, oC Γ og)]) hP
    obtain ⟨k, hk, he⟩ := hp
    rcases k with _ | k
    · obtain rfl : xIA = E := Option.some.inj he
      refine vx_catch (own := RL) (name := xIA) (E := xIA) hown [] ⟨0, 9, 12, 15⟩ [] (by rw [htab]; rfl) (fun w hw => nomatch hw) rfl (by decide) (hts (.classLink RL 15 xIA) (by decide +kernel)) (va_Nw.use rfl hE.2.2.2.2.1) h3 h4 h5 ?_
      refine lv_astore_n (lv' := [(3, .ref q9), (0, .ref (a 34)), (1, .int iw), (2, .ref o)]) hx hb dL_count_12 rfl hl (by decide) rfl (fun ls hl => ?_)
      refine lv_iconst (v := nI 1) hx hb dL_count_13 (by decide) ?_
      exact vx_ret (W.iret (v := nI 1) hx hb hrt (fun t9 ht9 hW9 => ⟨⟨_, ((f, z, F, Z), og), rfl, HO.bad hk (by decide) hX, by rw [ht9]; exact hP, va_K.moved hW9.alike hK, hD⟩, hS.F ht9⟩) hS.2.2 dL_count_14 hlk)
    · exact absurd he (by simp)
  · obtain ⟨hk0, hr⟩ := hr
    rw [hX.2.2.2.1] at hr
    subst hr
    have hP : gP Γ ((o, oC Γ og) :: wXo Γ a b rf f z F Z) H := gP_sw (w2 := [(o, oC Γ og)]) hP
    refine lv_i2l (v := (cntQ σ (nI sc) iw.toNatClampNeg).toInt64) hx hb dL_count_7 rfl ?_
    refine va_last hx hb hK hP hD hS 0 2 rfl rfl (vp_in_nI (by omega) (by omega)) dL_count_8 (fun H locs hP hD hS => ?_)
    have ec : (nI 0).toNatClampNeg = 0 := nI_clamp (by omega)
    rw [ec] at hP hD
    clear ec
    refine lv_goto (tgt := 15) hx hb dL_count_9 (by decide) ?_
    refine lv_iconst (v := nI 0) hx hb dL_count_15 (by decide) ?_
    exact vx_ret (W.iret (v := nI 0) hx hb hrt (fun t9 ht9 hW9 => ⟨⟨_, ((f, z, F, Z), vp_updL og 0 (cntQ σ (nI sc) iw.toNatClampNeg).toInt64), rfl, HO.ok hk0 rfl (oC_0 og (cntQ σ (nI sc) iw.toNatClampNeg).toInt64) hX, by rw [ht9]; exact hP, va_K.moved hW9.alike hK, hD⟩, hS.F ht9⟩) hS.2.2 dL_count_16 hlk)

abbrev rm_L_ifAsked : Room := { frames := 8, cells := 2, slots := 12, locals := 140 }
theorem k_L_ifAsked : CalH yL_ifAsked wsL_ifAsked rm_L_ifAsked cL_ifAsked 8 (some .int) [(0, 16, 19, 13), (0, 16, 23, 15)] 7 2 12 := ⟨⟨_, rfl⟩, rfl, rfl, by decide +kernel⟩
set_option maxHeartbeats 4000000 in
set_option maxRecDepth 100000 in
theorem m_L_ifAsked (l : Launch) (hfl : l.stackTraces = false) (Γ : Gm) (sz : Nat) (a : Nat → Nat) (b : Nat → Nat → Nat) (rf : Nat → Option Nat) (hrf : ∀ i, i < 6 → rf i = some (b i 0)) (f : Nat → Nat → Int32) (z : Nat → Int32) (F : Nat → Nat → Nat → Int32) (Z : Nat → Nat → Int32) (σ : Nat → Nat) (sc : Nat) (ss : Nat → Nat → Nat) (nb : Nat) (bb : Nat → Nat) (hX : XR σ sc ss nb bb f z F Z) (o : Nat) (og : Nat → Int64) (ip ipl il ih iw : Int32) : vx_Met l yL_ifAsked wsL_ifAsked rm_L_ifAsked (va_Pc [.ref (a 34), .int ip, .int ipl, .int il, .int ih, .int iw, .ref o] (wsE Γ sz ((o, oC Γ og) :: wXo Γ a b rf f z F Z))) (va_Qi (S := WtL) (fun r u => HO (ifC ip ipl il ih iw) r (wouQ σ ip.toNatClampNeg ipl il.toNatClampNeg ih.toNatClampNeg iw.toNatClampNeg) (XR σ sc ss nb bb u.1.1 u.1.2.1 u.1.2.2.1 u.1.2.2.2) (XR σ sc ss nb bb u.1.1 u.1.2.1 u.1.2.2.1 u.1.2.2.2) (u.2 0)) (fun u t => wd Γ (va_A ((o, oC Γ og) :: wXo Γ a b rf f z F Z) sz) ((o, oC Γ u.2) :: wXo Γ a b rf u.1.1 u.1.2.1 u.1.2.2.1 u.1.2.2.2) t) (va_A ((o, oC Γ og) :: wXo Γ a b rf f z F Z) sz)) (xX sz (fun _ => False)) 2 12 (va_A ((o, oC Γ og) :: wXo Γ a b rf f z F Z) sz) := by
  refine mH (cc := cL_ifAsked) (maxL := 8) (ret := some .int) (own := RL) (by decide) rfl rfl (Nat.le_of_ble_eq_true rfl) ?_
  intro p e s m args below meth c S hrt hlk htab hsz hE hK hP hD hA hS ls hl
  subst hsz
  generalize hAe : va_A ((o, oC Γ og) :: wXo Γ a b rf f z F Z) s.heap.size = A at hE hD hA hS ⊢
  obtain ⟨hx, hb, hml, hown, hts⟩ := id S
  have hl : lv_has ls 8 [(0, .ref (a 34)), (1, .int ip), (2, .int ipl), (3, .int il), (4, .int ih), (5, .int iw), (6, .ref o)] := hl
  refine lv_aload hx hb dL_ifAsked_0 (lv_at hl 6 rfl) ?_
  refine lv_iconst (v := nI 0) hx hb dL_ifAsked_2 (by decide) ?_
  refine lv_aload_n hx hb dL_ifAsked_3 rfl (lv_at hl 0 rfl) ?_
  refine lv_iload_n hx hb dL_ifAsked_4 rfl (lv_at hl 1 rfl) ?_
  refine lv_iload_n hx hb dL_ifAsked_5 rfl (lv_at hl 2 rfl) ?_
  refine lv_iload_n hx hb dL_ifAsked_6 rfl (lv_at hl 3 rfl) ?_
  refine lv_iload hx hb dL_ifAsked_7 (lv_at hl 4 rfl) ?_
  refine lv_iload hx hb dL_ifAsked_9 (lv_at hl 5 rfl) ?_
  refine eWi (As := [.int ip, .int ipl, .int il, .int ih, .int iw]) (rest := [.int (nI 0), .ref o]) (wr := [(o, oC Γ og)]) (m_X8_ifAsked l Γ _ hfl a b rf f z F Z σ hX.1 hX.2.1 ip ipl il ih iw) hE S k_X8_ifAsked gL_ifAsked_X8_ifAsked rfl ⟨(Nat.le_of_ble_eq_true rfl), (Nat.le_of_ble_eq_true rfl)⟩ hK (gP_sw (w1 := [(o, oC Γ og)]) hP) hS hA 0 (ci := 8) rfl rfl rfl rfl hl.1 (Nat.le_of_ble_eq_true rfl) rfl dL_ifAsked_11 ⟨(Nat.le_of_ble_eq_true rfl), (Nat.le_of_ble_eq_true rfl)⟩ (fun E ce q9 H locs hp hP hS h3 h4 h5 => ?_) (fun r H locs hr hP hS => ?_)
  · have hP : gP Γ ((o, oC Γ og) :: wXo Γ a b rf f z F Z) H := gP_sw (w2 := [(o, oC Γ og)]) hP
    obtain ⟨k, hk, he⟩ := hp
    rcases k with _ | _ | k
    · obtain rfl : xIO = E := Option.some.inj he
      refine vx_catch (own := RL) (name := xIO) (E := xIO) hown [] ⟨0, 16, 19, 13⟩ [⟨0, 16, 23, 15⟩] (by rw [htab]; rfl) (fun w hw => nomatch hw) rfl (by decide) (hts (.classLink RL 13 xIO) (by decide +kernel)) (va_Nw.use rfl hE.2.2.2.1) h3 h4 h5 ?_
      refine lv_astore (lv' := [(7, .ref q9), (0, .ref (a 34)), (1, .int ip), (2, .int ipl), (3, .int il), (4, .int ih), (5, .int iw), (6, .ref o)]) hx hb dL_ifAsked_19 hl (by decide) rfl (fun ls hl => ?_)
      refine lv_iconst (v := nI 1) hx hb dL_ifAsked_21 (by decide) ?_
      exact vx_ret (W.iret (v := nI 1) hx hb hrt (fun t9 ht9 hW9 => ⟨⟨_, ((f, z, F, Z), og), rfl, HO.bad hk (by decide) hX, by rw [ht9]; exact hP, va_K.moved hW9.alike hK, hD⟩, hS.F ht9⟩) hS.2.2 dL_ifAsked_22 hlk)
    · obtain rfl : xIA = E := Option.some.inj he
      refine vx_catch (own := RL) (name := xIA) (E := xIA) hown [⟨0, 16, 19, 13⟩] ⟨0, 16, 23, 15⟩ [] (by rw [htab]; rfl) (fun w hw => by rw [List.mem_singleton] at hw; subst hw; exact Or.inr ⟨by decide, xIO, hts (.classLink RL 13 xIO) (by decide +kernel), hE.2.2.2.2.2.2.1⟩) rfl (by decide) (hts (.classLink RL 15 xIA) (by decide +kernel)) (va_Nw.use rfl hE.2.2.2.2.1) h3 h4 h5 ?_
      refine lv_astore (lv' := [(7, .ref q9), (0, .ref (a 34)), (1, .int ip), (2, .int ipl), (3, .int il), (4, .int ih), (5, .int iw), (6, .ref o)]) hx hb dL_ifAsked_23 hl (by decide) rfl (fun ls hl => ?_)
      refine lv_iconst (v := nI 2) hx hb dL_ifAsked_25 (by decide) ?_
      exact vx_ret (W.iret (v := nI 2) hx hb hrt (fun t9 ht9 hW9 => ⟨⟨_, ((f, z, F, Z), og), rfl, HO.bad hk (by decide) hX, by rw [ht9]; exact hP, va_K.moved hW9.alike hK, hD⟩, hS.F ht9⟩) hS.2.2 dL_ifAsked_26 hlk)
    · exact absurd he (by simp)
  · obtain ⟨hk0, hr⟩ := hr
    subst hr
    have hP : gP Γ ((o, oC Γ og) :: wXo Γ a b rf f z F Z) H := gP_sw (w2 := [(o, oC Γ og)]) hP
    refine lv_i2l (v := (wouQ σ ip.toNatClampNeg ipl il.toNatClampNeg ih.toNatClampNeg iw.toNatClampNeg).toInt64) hx hb dL_ifAsked_14 rfl ?_
    refine va_last hx hb hK hP hD hS 0 2 rfl rfl (vp_in_nI (by omega) (by omega)) dL_ifAsked_15 (fun H locs hP hD hS => ?_)
    have ec : (nI 0).toNatClampNeg = 0 := nI_clamp (by omega)
    rw [ec] at hP hD
    clear ec
    refine lv_goto (tgt := 27) hx hb dL_ifAsked_16 (by decide) ?_
    refine lv_iconst (v := nI 0) hx hb dL_ifAsked_27 (by decide) ?_
    exact vx_ret (W.iret (v := nI 0) hx hb hrt (fun t9 ht9 hW9 => ⟨⟨_, ((f, z, F, Z), vp_updL og 0 (wouQ σ ip.toNatClampNeg ipl il.toNatClampNeg ih.toNatClampNeg iw.toNatClampNeg).toInt64), rfl, HO.ok hk0 rfl (oC_0 og (wouQ σ ip.toNatClampNeg ipl il.toNatClampNeg ih.toNatClampNeg iw.toNatClampNeg).toInt64) hX, by rw [ht9]; exact hP, va_K.moved hW9.alike hK, hD⟩, hS.F ht9⟩) hS.2.2 dL_ifAsked_28 hlk)

abbrev rm_L_hides : Room := { frames := 8, cells := 1, slots := 6, locals := 131 }
theorem k_L_hides : CalH yL_hides wsL_hides rm_L_hides cL_hides 4 (some .int) [(0, 9, 12, 13)] 3 1 6 := ⟨⟨_, rfl⟩, rfl, rfl, by decide +kernel⟩
set_option maxHeartbeats 4000000 in
set_option maxRecDepth 100000 in
theorem m_L_hides (l : Launch) (hfl : l.stackTraces = false) (Γ : Gm) (sz : Nat) (a : Nat → Nat) (b : Nat → Nat → Nat) (rf : Nat → Option Nat) (hrf : ∀ i, i < 6 → rf i = some (b i 0)) (f : Nat → Nat → Int32) (z : Nat → Int32) (F : Nat → Nat → Nat → Int32) (Z : Nat → Nat → Int32) (σ : Nat → Nat) (sc : Nat) (ss : Nat → Nat → Nat) (nb : Nat) (bb : Nat → Nat) (hX : XR σ sc ss nb bb f z F Z) (o : Nat) (og : Nat → Int64) (ip : Int32) : vx_Met l yL_hides wsL_hides rm_L_hides (va_Pc [.ref (a 34), .int ip, .ref o] (wsE Γ sz ((o, oC Γ og) :: wXo Γ a b rf f z F Z))) (va_Qi (S := WtL) (fun r u => HO (hiC ip) r (nI (hidQ σ ip.toNatClampNeg)) (XR σ sc ss nb bb u.1.1 u.1.2.1 u.1.2.2.1 u.1.2.2.2) (XR σ sc ss nb bb u.1.1 u.1.2.1 u.1.2.2.1 u.1.2.2.2) (u.2 0)) (fun u t => wd Γ (va_A ((o, oC Γ og) :: wXo Γ a b rf f z F Z) sz) ((o, oC Γ u.2) :: wXo Γ a b rf u.1.1 u.1.2.1 u.1.2.2.1 u.1.2.2.2) t) (va_A ((o, oC Γ og) :: wXo Γ a b rf f z F Z) sz)) (xX sz (fun _ => False)) 1 6 (va_A ((o, oC Γ og) :: wXo Γ a b rf f z F Z) sz) := by
  refine mH (cc := cL_hides) (maxL := 4) (ret := some .int) (own := RL) (by decide) rfl rfl (Nat.le_of_ble_eq_true rfl) ?_
  intro p e s m args below meth c S hrt hlk htab hsz hE hK hP hD hA hS ls hl
  subst hsz
  generalize hAe : va_A ((o, oC Γ og) :: wXo Γ a b rf f z F Z) s.heap.size = A at hE hD hA hS ⊢
  obtain ⟨hx, hb, hml, hown, hts⟩ := id S
  have hl : lv_has ls 4 [(0, .ref (a 34)), (1, .int ip), (2, .ref o)] := hl
  refine lv_aload_n hx hb dL_hides_0 rfl (lv_at hl 2 rfl) ?_
  refine lv_iconst (v := nI 0) hx hb dL_hides_1 (by decide) ?_
  refine lv_aload_n hx hb dL_hides_2 rfl (lv_at hl 0 rfl) ?_
  refine lv_iload_n hx hb dL_hides_3 rfl (lv_at hl 1 rfl) ?_
  refine eWi (As := [.int ip]) (rest := [.int (nI 0), .ref o]) (wr := [(o, oC Γ og)]) (m_X8_hides l Γ _ hfl a b rf f z F Z σ hX.1 hX.2.1 ip) hE S k_X8_hides gL_hides_X8_hides rfl ⟨(Nat.le_of_ble_eq_true rfl), (Nat.le_of_ble_eq_true rfl)⟩ hK (gP_sw (w1 := [(o, oC Γ og)]) hP) hS hA 0 (ci := 8) rfl rfl rfl rfl hl.1 (Nat.le_of_ble_eq_true rfl) rfl dL_hides_4 ⟨(Nat.le_of_ble_eq_true rfl), (Nat.le_of_ble_eq_true rfl)⟩ (fun E ce q9 H locs hp hP hS h3 h4 h5 => ?_) (fun r H locs hr hP hS => ?_)
  · have hP : gP Γ ((o, oC Γ og) :: wXo Γ a b rf f z F Z) H := gP_sw (w2 := [(o, oC Γ og)]) hP
    obtain ⟨k, hk, he⟩ := hp
    rcases k with _ | k
    · obtain rfl : xIO = E := Option.some.inj he
      refine vx_catch (own := RL) (name := xIO) (E := xIO) hown [] ⟨0, 9, 12, 13⟩ [] (by rw [htab]; rfl) (fun w hw => nomatch hw) rfl (by decide) (hts (.classLink RL 13 xIO) (by decide +kernel)) (va_Nw.use rfl hE.2.2.2.1) h3 h4 h5 ?_
      refine lv_astore_n (lv' := [(3, .ref q9), (0, .ref (a 34)), (1, .int ip), (2, .ref o)]) hx hb dL_hides_12 rfl hl (by decide) rfl (fun ls hl => ?_)
      refine lv_iconst (v := nI 1) hx hb dL_hides_13 (by decide) ?_
      exact vx_ret (W.iret (v := nI 1) hx hb hrt (fun t9 ht9 hW9 => ⟨⟨_, ((f, z, F, Z), og), rfl, HO.bad hk (by decide) hX, by rw [ht9]; exact hP, va_K.moved hW9.alike hK, hD⟩, hS.F ht9⟩) hS.2.2 dL_hides_14 hlk)
    · exact absurd he (by simp)
  · obtain ⟨hk0, hr⟩ := hr
    subst hr
    have hP : gP Γ ((o, oC Γ og) :: wXo Γ a b rf f z F Z) H := gP_sw (w2 := [(o, oC Γ og)]) hP
    refine lv_i2l (v := (nI (hidQ σ ip.toNatClampNeg)).toInt64) hx hb dL_hides_7 rfl ?_
    refine va_last hx hb hK hP hD hS 0 2 rfl rfl (vp_in_nI (by omega) (by omega)) dL_hides_8 (fun H locs hP hD hS => ?_)
    have ec : (nI 0).toNatClampNeg = 0 := nI_clamp (by omega)
    rw [ec] at hP hD
    clear ec
    refine lv_goto (tgt := 15) hx hb dL_hides_9 (by decide) ?_
    refine lv_iconst (v := nI 0) hx hb dL_hides_15 (by decide) ?_
    exact vx_ret (W.iret (v := nI 0) hx hb hrt (fun t9 ht9 hW9 => ⟨⟨_, ((f, z, F, Z), vp_updL og 0 (nI (hidQ σ ip.toNatClampNeg)).toInt64), rfl, HO.ok hk0 rfl (oC_0 og (nI (hidQ σ ip.toNatClampNeg)).toInt64) hX, by rw [ht9]; exact hP, va_K.moved hW9.alike hK, hD⟩, hS.F ht9⟩) hS.2.2 dL_hides_16 hlk)

abbrev rm_L_needed : Room := { frames := 7, cells := 1, slots := 6, locals := 121 }
theorem k_L_needed : CalH yL_needed wsL_needed rm_L_needed cL_needed 5 (some .int) [(0, 10, 13, 13)] 4 1 6 := ⟨⟨_, rfl⟩, rfl, rfl, by decide +kernel⟩
set_option maxHeartbeats 4000000 in
set_option maxRecDepth 100000 in
theorem m_L_needed (l : Launch) (hfl : l.stackTraces = false) (Γ : Gm) (sz : Nat) (a : Nat → Nat) (b : Nat → Nat → Nat) (rf : Nat → Option Nat) (hrf : ∀ i, i < 6 → rf i = some (b i 0)) (f : Nat → Nat → Int32) (z : Nat → Int32) (F : Nat → Nat → Nat → Int32) (Z : Nat → Nat → Int32) (σ : Nat → Nat) (sc : Nat) (ss : Nat → Nat → Nat) (nb : Nat) (bb : Nat → Nat) (hX : XR σ sc ss nb bb f z F Z) (o : Nat) (og : Nat → Int64) (ip il : Int32) : vx_Met l yL_needed wsL_needed rm_L_needed (va_Pc [.ref (a 34), .int ip, .int il, .ref o] (wsE Γ sz ((o, oC Γ og) :: wXo Γ a b rf f z F Z))) (va_Qi (S := WtL) (fun r u => HO (neC ip il) r (needQ σ ip.toNatClampNeg il) (XR σ sc ss nb bb u.1.1 u.1.2.1 u.1.2.2.1 u.1.2.2.2) (XR σ sc ss nb bb u.1.1 u.1.2.1 u.1.2.2.1 u.1.2.2.2) (u.2 0)) (fun u t => wd Γ (va_A ((o, oC Γ og) :: wXo Γ a b rf f z F Z) sz) ((o, oC Γ u.2) :: wXo Γ a b rf u.1.1 u.1.2.1 u.1.2.2.1 u.1.2.2.2) t) (va_A ((o, oC Γ og) :: wXo Γ a b rf f z F Z) sz)) (xX sz (fun _ => False)) 1 6 (va_A ((o, oC Γ og) :: wXo Γ a b rf f z F Z) sz) := by
  refine mH (cc := cL_needed) (maxL := 5) (ret := some .int) (own := RL) (by decide) rfl rfl (Nat.le_of_ble_eq_true rfl) ?_
  intro p e s m args below meth c S hrt hlk htab hsz hE hK hP hD hA hS ls hl
  subst hsz
  generalize hAe : va_A ((o, oC Γ og) :: wXo Γ a b rf f z F Z) s.heap.size = A at hE hD hA hS ⊢
  obtain ⟨hx, hb, hml, hown, hts⟩ := id S
  have hl : lv_has ls 5 [(0, .ref (a 34)), (1, .int ip), (2, .int il), (3, .ref o)] := hl
  refine lv_aload_n hx hb dL_needed_0 rfl (lv_at hl 3 rfl) ?_
  refine lv_iconst (v := nI 0) hx hb dL_needed_1 (by decide) ?_
  refine lv_aload_n hx hb dL_needed_2 rfl (lv_at hl 0 rfl) ?_
  refine lv_iload_n hx hb dL_needed_3 rfl (lv_at hl 1 rfl) ?_
  refine lv_iload_n hx hb dL_needed_4 rfl (lv_at hl 2 rfl) ?_
  refine eWi (As := [.int ip, .int il]) (rest := [.int (nI 0), .ref o]) (wr := [(o, oC Γ og)]) (m_X8_needed l Γ _ hfl a b rf f z F Z σ hX.1 hX.2.1 ip il) hE S k_X8_needed gL_needed_X8_needed rfl ⟨(Nat.le_of_ble_eq_true rfl), (Nat.le_of_ble_eq_true rfl)⟩ hK (gP_sw (w1 := [(o, oC Γ og)]) hP) hS hA 0 (ci := 8) rfl rfl rfl rfl hl.1 (Nat.le_of_ble_eq_true rfl) rfl dL_needed_5 ⟨(Nat.le_of_ble_eq_true rfl), (Nat.le_of_ble_eq_true rfl)⟩ (fun E ce q9 H locs hp hP hS h3 h4 h5 => ?_) (fun r H locs hr hP hS => ?_)
  · have hP : gP Γ ((o, oC Γ og) :: wXo Γ a b rf f z F Z) H := gP_sw (w2 := [(o, oC Γ og)]) hP
    obtain ⟨k, hk, he⟩ := hp
    rcases k with _ | k
    · obtain rfl : xIO = E := Option.some.inj he
      refine vx_catch (own := RL) (name := xIO) (E := xIO) hown [] ⟨0, 10, 13, 13⟩ [] (by rw [htab]; rfl) (fun w hw => nomatch hw) rfl (by decide) (hts (.classLink RL 13 xIO) (by decide +kernel)) (va_Nw.use rfl hE.2.2.2.1) h3 h4 h5 ?_
      refine lv_astore (lv' := [(4, .ref q9), (0, .ref (a 34)), (1, .int ip), (2, .int il), (3, .ref o)]) hx hb dL_needed_13 hl (by decide) rfl (fun ls hl => ?_)
      refine lv_iconst (v := nI 1) hx hb dL_needed_15 (by decide) ?_
      exact vx_ret (W.iret (v := nI 1) hx hb hrt (fun t9 ht9 hW9 => ⟨⟨_, ((f, z, F, Z), og), rfl, HO.bad hk (by decide) hX, by rw [ht9]; exact hP, va_K.moved hW9.alike hK, hD⟩, hS.F ht9⟩) hS.2.2 dL_needed_16 hlk)
    · exact absurd he (by simp)
  · obtain ⟨hk0, hr⟩ := hr
    subst hr
    have hP : gP Γ ((o, oC Γ og) :: wXo Γ a b rf f z F Z) H := gP_sw (w2 := [(o, oC Γ og)]) hP
    refine lv_i2l (v := (needQ σ ip.toNatClampNeg il).toInt64) hx hb dL_needed_8 rfl ?_
    refine va_last hx hb hK hP hD hS 0 2 rfl rfl (vp_in_nI (by omega) (by omega)) dL_needed_9 (fun H locs hP hD hS => ?_)
    have ec : (nI 0).toNatClampNeg = 0 := nI_clamp (by omega)
    rw [ec] at hP hD
    clear ec
    refine lv_goto (tgt := 17) hx hb dL_needed_10 (by decide) ?_
    refine lv_iconst (v := nI 0) hx hb dL_needed_17 (by decide) ?_
    exact vx_ret (W.iret (v := nI 0) hx hb hrt (fun t9 ht9 hW9 => ⟨⟨_, ((f, z, F, Z), vp_updL og 0 (needQ σ ip.toNatClampNeg il).toInt64), rfl, HO.ok hk0 rfl (oC_0 og (needQ σ ip.toNatClampNeg il).toInt64) hX, by rw [ht9]; exact hP, va_K.moved hW9.alike hK, hD⟩, hS.F ht9⟩) hS.2.2 dL_needed_18 hlk)

