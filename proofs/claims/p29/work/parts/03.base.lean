/-! My base: contracts of readers and writers over a list of cells, prologues, calls in one row. -/
abbrev vwCl : List vw_C := [(RX0, TX0, 2), (RX1, TX1, 3), (RX2, TX2, 2), (RX3, TX3, 1), (RX4, TX4, 3), (RX5, TX5, 5), (RX6, TX6, 6), (RX7, TX7, 3), (RX8, TX8, 3)]
abbrev Gm : Type := va_G × ClassId × ClassId × ClassId
abbrev gT (Γ : Gm) : List (ClassId × FieldType) := [(Γ.2.1, .int), (Γ.2.2.1, .object RX6)]
abbrev gP (Γ : Gm) (ws : va_W) (H : Heap) : Prop := va_P Γ.1 vwCl ws H
abbrev gK (Γ : Gm) (U : State) : Prop := va_K Γ.1 vwCl (gT Γ) U
/-- a world that is read -/
def rd (Γ : Gm) (ws : va_W) : State → Prop := fun U => gP Γ ws U.heap ∧ gK Γ U
/-- a world that is written -/
def wd (Γ : Gm) (A : Nat → Prop) (ws : va_W) : State → Prop := fun U => gP Γ ws U.heap ∧ gK Γ U ∧ va_D A ws
/-- a writer's start -/
def ws0 (Γ : Gm) (sz : Nat) (ws : va_W) : State → Prop := fun U => U.heap.size = sz ∧ wd Γ (fun _ => True) ws U
theorem gK_call {Γ : Gm} {U : State} {g : JFrame} {mk : MethodId} {a : Array Value} (h : gK Γ U) : gK Γ (U.calling g mk a) := va_K.moved (u := U) (U := U.calling g mk a) (Vm.Alike.refl U.vm) h
theorem rd_blind {Γ : Gm} {ws : va_W} {av : List Value} : FrameBlind (va_Pc av (rd Γ ws)) := fun _ _ _ _ h => ⟨h.1, h.2.1, gK_call h.2.2⟩
theorem ws0_blind {Γ : Gm} {ws : va_W} {av : List Value} {sz : Nat} : FrameBlind (va_Pc av (ws0 Γ sz ws)) := fun _ _ _ _ h => ⟨h.1, h.2.1, h.2.2.1, gK_call h.2.2.2.1, h.2.2.2.2⟩
theorem tr_blind {av : List Value} : FrameBlind (va_Pc av (fun _ => True)) := fun _ _ _ _ h => h
/-- readers' contracts -/
abbrev MRi (l : Launch) (y : MethodName) (ws : List Cond) (rm : Room) (Γ : Gm) (w : va_W) (av : List Value) (post : Int32 → Prop) : Prop := Met l y ws rm (va_Pc av (rd Γ w)) (vp_Si post) 0 0 (fun _ => False)
abbrev MRl (l : Launch) (y : MethodName) (ws : List Cond) (rm : Room) (Γ : Gm) (w : va_W) (av : List Value) (post : Int64 → Prop) : Prop := Met l y ws rm (va_Pc av (rd Γ w)) (vp_Sl post) 0 0 (fun _ => False)
abbrev MRd (l : Launch) (y : MethodName) (ws : List Cond) (rm : Room) (Γ : Gm) (w : va_W) (av : List Value) (post : UInt64 → Prop) : Prop := Met l y ws rm (va_Pc av (rd Γ w)) (vp_Sd post) 0 0 (fun _ => False)
/-- contracts without a world -/
abbrev MSi (l : Launch) (y : MethodName) (ws : List Cond) (rm : Room) (av : List Value) (post : Int32 → Prop) : Prop := Met l y ws rm (va_Pc av (fun _ => True)) (vp_Si post) 0 0 (fun _ => False)
abbrev MSl (l : Launch) (y : MethodName) (ws : List Cond) (rm : Room) (av : List Value) (post : Int64 → Prop) : Prop := Met l y ws rm (va_Pc av (fun _ => True)) (vp_Sl post) 0 0 (fun _ => False)
/-- writers' contracts: the world w becomes w1 u -/
abbrev MWi {S : Type} (l : Launch) (y : MethodName) (ws : List Cond) (rm : Room) (Γ : Gm) (sz : Nat) (w : va_W) (av : List Value) (post : Int32 → S → Prop) (w1 : S → va_W) (mc ms : Nat) : Prop :=
  Met l y ws rm (va_Pc av (ws0 Γ sz w)) (va_Qi post (fun u t => wd Γ (va_A w sz) (w1 u) t) (va_A w sz)) mc ms (va_A w sz)
abbrev MWv {S : Type} (l : Launch) (y : MethodName) (ws : List Cond) (rm : Room) (Γ : Gm) (sz : Nat) (w : va_W) (av : List Value) (post : S → Prop) (w1 : S → va_W) (mc ms : Nat) : Prop :=
  Met l y ws rm (va_Pc av (ws0 Γ sz w)) (va_Qv post (fun u t => wd Γ (va_A w sz) (w1 u) t) (va_A w sz)) mc ms (va_A w sz)
abbrev MWl {S : Type} (l : Launch) (y : MethodName) (ws : List Cond) (rm : Room) (Γ : Gm) (sz : Nat) (w : va_W) (av : List Value) (post : Int64 → S → Prop) (w1 : S → va_W) (mc ms : Nat) : Prop :=
  Met l y ws rm (va_Pc av (ws0 Γ sz w)) (va_Ql post (fun u t => wd Γ (va_A w sz) (w1 u) t) (va_A w sz)) mc ms (va_A w sz)
abbrev MWd {S : Type} (l : Launch) (y : MethodName) (ws : List Cond) (rm : Room) (Γ : Gm) (sz : Nat) (w : va_W) (av : List Value) (post : UInt64 → S → Prop) (w1 : S → va_W) (mc ms : Nat) : Prop :=
  Met l y ws rm (va_Pc av (ws0 Γ sz w)) (va_Qd post (fun u t => wd Γ (va_A w sz) (w1 u) t) (va_A w sz)) mc ms (va_A w sz)
section BS
variable {l : Launch} {y : MethodName} {ws ws' : List Cond} {rm : Room} {Γ : Gm} {w : va_W} {av : List Value} {cc : ByteArray} {maxL : Nat} {ret : Option FieldType} {own : String} {Qc : Array Value → State → Outcome → State → Prop}
/-- a reader's prologue -/
theorem mR (hy : plainName y.cls = true) (hw : ws = Cond.code y cc maxL ret :: ws') (hcls : y.cls = own) (hlen : (lg_sl av).length ≤ maxL)
    (body : ∀ (p : Program) (e : Env) (s : State) (m : MethodId) (args : Array Value) (below : List Frame) (meth : Method) (c : Code), CallFix p m c cc maxL s args ws own → meth.sig.returnType = ret → meth.locks = false → gK Γ s → gP Γ w s.heap →
      ∀ ls : Array Slot, lv_has ls maxL (lv_args 0 av) → W p l e rm s m args below meth c s.heap [] 0 0 (MQ below Qc args s 0 0 (fun _ => False)) (F0 m 0 ls [])) :
    Met l y ws rm (va_Pc av (rd Γ w)) Qc 0 0 (fun _ => False) := by
  refine Met.ofW (cc := cc) (maxL := maxL) (ret := ret) hy hw ?_
  intro p e s m args below meth c s₁ B hml hv
  obtain ⟨rfl, hP, hK⟩ := hv
  subst hcls
  have hl := lv_entry av (n := maxL) hlen
  rw [lg_entry_eq]
  exact body p e s m _ below meth c ⟨B.exec, B.bytes, hml, findClass_of_methodNamed B.named, atoms_spec (ws := ws) B.pre⟩ B.returns B.notSynchronized hK hP _ hl
/-- a prologue without a world -/
theorem mS (hy : plainName y.cls = true) (hw : ws = Cond.code y cc maxL ret :: ws') (hcls : y.cls = own) (hlen : (lg_sl av).length ≤ maxL)
    (body : ∀ (p : Program) (e : Env) (s : State) (m : MethodId) (args : Array Value) (below : List Frame) (meth : Method) (c : Code), CallFix p m c cc maxL s args ws own → meth.sig.returnType = ret → meth.locks = false →
      ∀ ls : Array Slot, lv_has ls maxL (lv_args 0 av) → W p l e rm s m args below meth c s.heap [] 0 0 (MQ below Qc args s 0 0 (fun _ => False)) (F0 m 0 ls [])) :
    Met l y ws rm (va_Pc av (fun _ => True)) Qc 0 0 (fun _ => False) := by
  refine Met.ofW (cc := cc) (maxL := maxL) (ret := ret) hy hw ?_
  intro p e s m args below meth c s₁ B hml hv
  obtain ⟨rfl, -⟩ := hv
  subst hcls
  have hl := lv_entry av (n := maxL) hlen
  rw [lg_entry_eq]
  exact body p e s m _ below meth c ⟨B.exec, B.bytes, hml, findClass_of_methodNamed B.named, atoms_spec (ws := ws) B.pre⟩ B.returns B.notSynchronized _ hl
/-- a writer's prologue -/
theorem mW {sz mc ms : Nat} {free : Nat → Prop} (hy : plainName y.cls = true) (hw : ws = Cond.code y cc maxL ret :: ws') (hcls : y.cls = own) (hlen : (lg_sl av).length ≤ maxL)
    (body : ∀ (p : Program) (e : Env) (s : State) (m : MethodId) (args : Array Value) (below : List Frame) (meth : Method) (c : Code), CallFix p m c cc maxL s args ws own → meth.sig.returnType = ret → meth.locks = false → (y.name = "<init>" → meth.name = "<init>") → s.heap.size = sz → gK Γ s → gP Γ w s.heap → va_D (va_A w sz) w →
      (∀ q : Nat, s.heap.size ≤ q → va_A w sz q) → va_S (va_A w sz) s.heap s.heap [] →
      ∀ ls : Array Slot, lv_has ls maxL (lv_args 0 av) → W p l e rm s m args below meth c s.heap [] 0 0 (MQ below Qc args s mc ms free) (F0 m 0 ls [])) :
    Met l y ws rm (va_Pc av (ws0 Γ sz w)) Qc mc ms free := by
  refine Met.ofW (cc := cc) (maxL := maxL) (ret := ret) hy hw ?_
  intro p e s m args below meth c s₁ B hml hv
  obtain ⟨rfl, hsz, hP, hK, hD0⟩ := hv
  subst hcls
  have hl := lv_entry av (n := maxL) hlen
  rw [lg_entry_eq]
  exact body p e s m _ below meth c ⟨B.exec, B.bytes, hml, findClass_of_methodNamed B.named, atoms_spec (ws := ws) B.pre⟩ B.returns B.notSynchronized (fun h => (name_of_methodNamed B.named B.method).1.trans h) hsz hK hP hD0.self (fun q h => Or.inr (by rw [← hsz]; exact h)) va_S.rf _ hl
end BS
section BC
variable {p : Program} {l : Launch} {e : Env} {R : Room} {s : State} {m : MethodId} {args : Array Value} {below : List Frame} {meth : Method} {c : Code} {H : Heap} {locs : List Loc} {cells slots : Nat} {Q : State → Prop}
variable {Ts wy wy' : List Cond} {cc bytes : ByteArray} {nL maxL index n pc : Nat} {own C : String} {y : MethodName} {ret : Option FieldType} {rm : Room} {b : Nat} {As rest st : List Value} {ls : Array Slot} {Γ : Gm} {ws wc : va_W}
/-- the top of the stack in another form -/
theorem asi {x z : Int32} (h : x = z) (k : W p l e R s m args below meth c H locs cells slots Q (F0 m pc ls (.int z :: rest))) : W p l e R s m args below meth c H locs cells slots Q (F0 m pc ls (.int x :: rest)) := h ▸ k
theorem asl {x z : Int64} (h : x = z) (k : W p l e R s m args below meth c H locs cells slots Q (F0 m pc ls (.long z :: rest))) : W p l e R s m args below meth c H locs cells slots Q (F0 m pc ls (.long x :: rest)) := h ▸ k
theorem asd {x z : UInt64} (h : x = z) (k : W p l e R s m args below meth c H locs cells slots Q (F0 m pc ls (.double z :: rest))) : W p l e R s m args below meth c H locs cells slots Q (F0 m pc ls (.double x :: rest)) := h ▸ k
/-- what a callee is: all that a call wants of it -/
def Cal (y : MethodName) (wy : List Cond) (rm : Room) (bytes : ByteArray) (maxL : Nat) (ret : Option FieldType) (n mc ms : Nat) : Prop :=
  (∃ wy', wy = Cond.code y bytes maxL ret :: wy') ∧ rm.cells = mc ∧ rm.slots = ms ∧ (y.cls ≠ "java/lang/invoke/MethodHandle" ∧ y.cls ≠ "java/lang/invoke/VarHandle" ∧ (parseMethodDescriptor y.desc).map (fun d => d.parameters.length) = some n)
theorem Cal.V {mc ms : Nat} (k : Cal y wy rm bytes maxL ret n mc ms) (ht : ∀ w ∈ Ts, w.before args s = true) (hT : GoodIn Ts (wsV own index C y wy)) (hC : y.cls = C) (hR : rm.frames + 1 ≤ R.frames ∧ 8 + (maxL + 11) + rm.locals ≤ R.locals) : CallW R s args own C index y bytes maxL ret wy rm mc ms n := by
  obtain ⟨⟨w', hw⟩, hrc, hrs, hd⟩ := k
  exact cwV n ht hT hw hrc hrs ⟨hC, hd⟩ hR
theorem Cal.S {mc ms : Nat} (k : Cal y wy rm bytes maxL ret n mc ms) (ht : ∀ w ∈ Ts, w.before args s = true) (hT : GoodIn Ts (va_wsS own index y wy)) (hR : rm.frames + 1 ≤ R.frames ∧ 8 + (maxL + 11) + rm.locals ≤ R.locals) : CallB R s args own index y bytes maxL ret wy rm mc ms n ∧ (Cond.static y).before args s = true := by
  obtain ⟨⟨w', hw⟩, hrc, hrs, hd⟩ := k
  exact va_cwS n ht hT hw hrc hrs hd hR
/-- a reader called on an object: int -/
theorem cRi {post : Int32 → Prop} (hM : Met l y wy rm (va_Pc (.ref b :: As) (rd Γ wc)) (vp_Si post) 0 0 (fun _ => False)) (S : CallFix p m c cc nL s args Ts own) (k : Cal y wy rm bytes maxL ret n 0 0) (hT : GoodIn Ts (wsV own index C y wy)) (hC : y.cls = C) (hR : rm.frames + 1 ≤ R.frames ∧ 8 + (maxL + 11) + rm.locals ≤ R.locals)
    (hK : gK Γ s) (hP : gP Γ ws H) (is : List Nat) (hs : is.filterMap (fun i => ws[i]?) = wc) (q0 : Nat) {ci : Nat} {q : vw_C} {fs : List Value} (hc : vwCl[ci]? = some q) (he : wc[q0]? = some (b, .inr (ci, fs))) (hq : q.1 = C) (hn : As.length = n) (hl : ls.size = nL) (hroom : (rest.map fun v => v.category).sum ≤ 8)
    (hst : st = As.reverse ++ .ref b :: rest) (hdg : decode cc pc = .ok (.invokevirtual index, 3)) (hce : cells ≤ R.cells ∧ slots ≤ R.slots)
    (kk : ∀ r : Int32, post r → W p l e R s m args below meth c H locs cells slots Q (F0 m (pc + 3) ls (.int r :: rest))) : W p l e R s m args below meth c H locs cells slots Q (F0 m pc ls st) := by
  subst hst
  subst hq
  have hP2 := hP.sub is hs
  exact vp_callSi (W.runV S hM (k.V S.2.2.2.2 hT hC hR) ⟨rd_blind, va_recv hK hP2 hc he, fun U hU hW => ⟨rfl, by rw [hU]; exact hP2, va_K.moved hW.alike hK⟩⟩ rfl hn hl rfl (lv_room hroom) hdg hce) kk
theorem cRl {post : Int64 → Prop} (hM : Met l y wy rm (va_Pc (.ref b :: As) (rd Γ wc)) (vp_Sl post) 0 0 (fun _ => False)) (S : CallFix p m c cc nL s args Ts own) (k : Cal y wy rm bytes maxL ret n 0 0) (hT : GoodIn Ts (wsV own index C y wy)) (hC : y.cls = C) (hR : rm.frames + 1 ≤ R.frames ∧ 8 + (maxL + 11) + rm.locals ≤ R.locals)
    (hK : gK Γ s) (hP : gP Γ ws H) (is : List Nat) (hs : is.filterMap (fun i => ws[i]?) = wc) (q0 : Nat) {ci : Nat} {q : vw_C} {fs : List Value} (hc : vwCl[ci]? = some q) (he : wc[q0]? = some (b, .inr (ci, fs))) (hq : q.1 = C) (hn : As.length = n) (hl : ls.size = nL) (hroom : (rest.map fun v => v.category).sum ≤ 8)
    (hst : st = As.reverse ++ .ref b :: rest) (hdg : decode cc pc = .ok (.invokevirtual index, 3)) (hce : cells ≤ R.cells ∧ slots ≤ R.slots)
    (kk : ∀ r : Int64, post r → W p l e R s m args below meth c H locs cells slots Q (F0 m (pc + 3) ls (.long r :: rest))) : W p l e R s m args below meth c H locs cells slots Q (F0 m pc ls st) := by
  subst hst
  subst hq
  have hP2 := hP.sub is hs
  exact vp_callSl (W.runV S hM (k.V S.2.2.2.2 hT hC hR) ⟨rd_blind, va_recv hK hP2 hc he, fun U hU hW => ⟨rfl, by rw [hU]; exact hP2, va_K.moved hW.alike hK⟩⟩ rfl hn hl rfl (lv_room hroom) hdg hce) kk
theorem cRd {post : UInt64 → Prop} (hM : Met l y wy rm (va_Pc (.ref b :: As) (rd Γ wc)) (vp_Sd post) 0 0 (fun _ => False)) (S : CallFix p m c cc nL s args Ts own) (k : Cal y wy rm bytes maxL ret n 0 0) (hT : GoodIn Ts (wsV own index C y wy)) (hC : y.cls = C) (hR : rm.frames + 1 ≤ R.frames ∧ 8 + (maxL + 11) + rm.locals ≤ R.locals)
    (hK : gK Γ s) (hP : gP Γ ws H) (is : List Nat) (hs : is.filterMap (fun i => ws[i]?) = wc) (q0 : Nat) {ci : Nat} {q : vw_C} {fs : List Value} (hc : vwCl[ci]? = some q) (he : wc[q0]? = some (b, .inr (ci, fs))) (hq : q.1 = C) (hn : As.length = n) (hl : ls.size = nL) (hroom : (rest.map fun v => v.category).sum ≤ 8)
    (hst : st = As.reverse ++ .ref b :: rest) (hdg : decode cc pc = .ok (.invokevirtual index, 3)) (hce : cells ≤ R.cells ∧ slots ≤ R.slots)
    (kk : ∀ r : UInt64, post r → W p l e R s m args below meth c H locs cells slots Q (F0 m (pc + 3) ls (.double r :: rest))) : W p l e R s m args below meth c H locs cells slots Q (F0 m pc ls st) := by
  subst hst
  subst hq
  have hP2 := hP.sub is hs
  exact vp_callSd (W.runV S hM (k.V S.2.2.2.2 hT hC hR) ⟨rd_blind, va_recv hK hP2 hc he, fun U hU hW => ⟨rfl, by rw [hU]; exact hP2, va_K.moved hW.alike hK⟩⟩ rfl hn hl rfl (lv_room hroom) hdg hce) kk
/-- a static method without a world -/
theorem cSi {post : Int32 → Prop} (hM : Met l y wy rm (va_Pc As (fun _ => True)) (vp_Si post) 0 0 (fun _ => False)) (S : CallFix p m c cc nL s args Ts own) (k : Cal y wy rm bytes maxL ret n 0 0) (hT : GoodIn Ts (va_wsS own index y wy)) (hR : rm.frames + 1 ≤ R.frames ∧ 8 + (maxL + 11) + rm.locals ≤ R.locals)
    (hn : As.length = n) (hl : ls.size = nL) (hroom : (rest.map fun v => v.category).sum ≤ 8)
    (hst : st = As.reverse ++ rest) (hdg : decode cc pc = .ok (.invokestatic index, 3)) (hce : cells ≤ R.cells ∧ slots ≤ R.slots)
    (kk : ∀ r : Int32, post r → W p l e R s m args below meth c H locs cells slots Q (F0 m (pc + 3) ls (.int r :: rest))) : W p l e R s m args below meth c H locs cells slots Q (F0 m pc ls st) := by
  subst hst
  exact vp_callSi (W.runS S hM (k.S S.2.2.2.2 hT hR) ⟨tr_blind, fun U hU hW => ⟨rfl, trivial⟩⟩ rfl hn hl rfl (lv_room hroom) hdg hce) kk
theorem cSl {post : Int64 → Prop} (hM : Met l y wy rm (va_Pc As (fun _ => True)) (vp_Sl post) 0 0 (fun _ => False)) (S : CallFix p m c cc nL s args Ts own) (k : Cal y wy rm bytes maxL ret n 0 0) (hT : GoodIn Ts (va_wsS own index y wy)) (hR : rm.frames + 1 ≤ R.frames ∧ 8 + (maxL + 11) + rm.locals ≤ R.locals)
    (hn : As.length = n) (hl : ls.size = nL) (hroom : (rest.map fun v => v.category).sum ≤ 8)
    (hst : st = As.reverse ++ rest) (hdg : decode cc pc = .ok (.invokestatic index, 3)) (hce : cells ≤ R.cells ∧ slots ≤ R.slots)
    (kk : ∀ r : Int64, post r → W p l e R s m args below meth c H locs cells slots Q (F0 m (pc + 3) ls (.long r :: rest))) : W p l e R s m args below meth c H locs cells slots Q (F0 m pc ls st) := by
  subst hst
  exact vp_callSl (W.runS S hM (k.S S.2.2.2.2 hT hR) ⟨tr_blind, fun U hU hW => ⟨rfl, trivial⟩⟩ rfl hn hl rfl (lv_room hroom) hdg hce) kk
/-- a writer's end -/
theorem wd_end {A : Nat → Prop} {ws' : va_W} (hK : gK Γ s) (hP : gP Γ ws H) (hD : va_D A ws) (is : List Nat) (hn : va_nd is = true) (hs : is.map (fun i => ws[i]?) = ws'.map some) (t : State) (ht : t.heap = H) (hW : s.WarmedH t.vm) : wd Γ A ws' t := by
  refine ⟨?_, va_K.moved hW.alike hK, hD.sub is hn hs⟩
  rw [ht]
  refine hP.sub is ?_
  have h1 : (is.map (fun i => ws[i]?)).filterMap id = (ws'.map some).filterMap id := by rw [hs]
  simpa [List.filterMap_map] using h1
/-- a writer called on an object -/
theorem cWi {S0 : Type} {post : Int32 → S0 → Prop} {w1 : S0 → va_W} {wr : va_W} {mc ms : Nat} {A0 : Nat → Prop} {H0 : Heap} (hM : Met l y wy rm (va_Pc (.ref b :: As) (ws0 Γ H.size wc)) (va_Qi post (fun u t => wd Γ (va_A wc H.size) (w1 u) t) (va_A wc H.size)) mc ms (va_A wc H.size))
    (S : CallFix p m c cc nL s args Ts own) (k : Cal y wy rm bytes maxL ret n mc ms) (hT : GoodIn Ts (wsV own index C y wy)) (hC : y.cls = C) (hR : rm.frames + 1 ≤ R.frames ∧ 8 + (maxL + 11) + rm.locals ≤ R.locals)
    (hK : gK Γ s) (hP : gP Γ ws H) (hD : va_D A0 ws) (hS : va_S A0 H0 H locs) (hA : ∀ q, H0.size ≤ q → A0 q) (isC isR : List Nat) (hs : isC.map (fun i => ws[i]?) = wc.map some) (hr : isR.map (fun i => ws[i]?) = wr.map some) (hnC : va_nd isC = true) (hnR : va_nd isR = true) (hdis : ∀ i ∈ isR, i ∉ isC)
    (q0 : Nat) {ci : Nat} {q : vw_C} {fs : List Value} (hc : vwCl[ci]? = some q) (he : wc[q0]? = some (b, .inr (ci, fs))) (hq : q.1 = C) (hn : As.length = n) (hl : ls.size = nL) (hroom : (rest.map fun v => v.category).sum ≤ 8)
    (hst : st = As.reverse ++ .ref b :: rest) (hdg : decode cc pc = .ok (.invokevirtual index, 3)) (hce : cells + mc ≤ R.cells ∧ slots + ms ≤ R.slots)
    (kk : ∀ (r : Int32) (u : S0) (H1 : Heap) (locs1 : List Loc), post r u → gP Γ (wr ++ w1 u) H1 → va_D A0 (wr ++ w1 u) → va_S A0 H0 H1 locs1 → W p l e R s m args below meth c H1 locs1 (cells + mc) (slots + ms) Q (F0 m (pc + 3) ls (.int r :: rest))) : W p l e R s m args below meth c H locs cells slots Q (F0 m pc ls st) := by
  subst hst
  subst hq
  have hD2 := hD.sub isC hnC hs
  have hP2 : gP Γ wc H := by
    refine hP.sub isC ?_
    have h1 : (isC.map (fun i => ws[i]?)).filterMap id = (wc.map some).filterMap id := by rw [hs]
    simpa [List.filterMap_map] using h1
  have hF := va_free hD hS hA isC hs
  exact va_calli (va_runV S hM (k.V S.2.2.2.2 hT hC hR) ⟨ws0_blind, va_recv hK hP2 hc he, fun U hU hW => ⟨rfl, by rw [hU], by rw [hU]; exact hP2, va_K.moved hW.alike hK, hD2.weaken (fun _ _ _ _ => trivial)⟩⟩ rfl hn hl rfl (lv_room hroom) hdg hce) hS (fun q _ h => hF q h) hF
    (fun r u t H1 locs1 ht hvm hp hB hz1 hk1 hS1 => by
      obtain ⟨hP1, hK1, hD1⟩ := hB
      rw [ht] at hP1
      obtain ⟨hP3, hD3⟩ := va_join (wr := wr) (w1 := w1 u) hP hD isC isR hs hr hnR hdis hk1 hF hP1 hD1
      exact kk r u H1 locs1 hp hP3 hD3 hS1)
theorem cWv {S0 : Type} {post : S0 → Prop} {w1 : S0 → va_W} {wr : va_W} {mc ms : Nat} {A0 : Nat → Prop} {H0 : Heap} (hM : Met l y wy rm (va_Pc (.ref b :: As) (ws0 Γ H.size wc)) (va_Qv post (fun u t => wd Γ (va_A wc H.size) (w1 u) t) (va_A wc H.size)) mc ms (va_A wc H.size))
    (S : CallFix p m c cc nL s args Ts own) (k : Cal y wy rm bytes maxL ret n mc ms) (hT : GoodIn Ts (wsV own index C y wy)) (hC : y.cls = C) (hR : rm.frames + 1 ≤ R.frames ∧ 8 + (maxL + 11) + rm.locals ≤ R.locals)
    (hK : gK Γ s) (hP : gP Γ ws H) (hD : va_D A0 ws) (hS : va_S A0 H0 H locs) (hA : ∀ q, H0.size ≤ q → A0 q) (isC isR : List Nat) (hs : isC.map (fun i => ws[i]?) = wc.map some) (hr : isR.map (fun i => ws[i]?) = wr.map some) (hnC : va_nd isC = true) (hnR : va_nd isR = true) (hdis : ∀ i ∈ isR, i ∉ isC)
    (q0 : Nat) {ci : Nat} {q : vw_C} {fs : List Value} (hc : vwCl[ci]? = some q) (he : wc[q0]? = some (b, .inr (ci, fs))) (hq : q.1 = C) (hn : As.length = n) (hl : ls.size = nL) (hroom : (rest.map fun v => v.category).sum ≤ 8)
    (hst : st = As.reverse ++ .ref b :: rest) (hdg : decode cc pc = .ok (.invokevirtual index, 3)) (hce : cells + mc ≤ R.cells ∧ slots + ms ≤ R.slots)
    (kk : ∀ (u : S0) (H1 : Heap) (locs1 : List Loc), post u → gP Γ (wr ++ w1 u) H1 → va_D A0 (wr ++ w1 u) → va_S A0 H0 H1 locs1 → W p l e R s m args below meth c H1 locs1 (cells + mc) (slots + ms) Q (F0 m (pc + 3) ls rest)) : W p l e R s m args below meth c H locs cells slots Q (F0 m pc ls st) := by
  subst hst
  subst hq
  have hD2 := hD.sub isC hnC hs
  have hP2 : gP Γ wc H := by
    refine hP.sub isC ?_
    have h1 : (isC.map (fun i => ws[i]?)).filterMap id = (wc.map some).filterMap id := by rw [hs]
    simpa [List.filterMap_map] using h1
  have hF := va_free hD hS hA isC hs
  exact va_callv (va_runV S hM (k.V S.2.2.2.2 hT hC hR) ⟨ws0_blind, va_recv hK hP2 hc he, fun U hU hW => ⟨rfl, by rw [hU], by rw [hU]; exact hP2, va_K.moved hW.alike hK, hD2.weaken (fun _ _ _ _ => trivial)⟩⟩ rfl hn hl rfl (lv_room hroom) hdg hce) hS (fun q _ h => hF q h) hF
    (fun u t H1 locs1 ht hvm hp hB hz1 hk1 hS1 => by
      obtain ⟨hP1, hK1, hD1⟩ := hB
      rw [ht] at hP1
      obtain ⟨hP3, hD3⟩ := va_join (wr := wr) (w1 := w1 u) hP hD isC isR hs hr hnR hdis hk1 hF hP1 hD1
      exact kk u H1 locs1 hp hP3 hD3 hS1)
end BC
