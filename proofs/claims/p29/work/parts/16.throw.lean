/-! Methods that throw: what they want of the start, their contracts, their calls. -/
abbrev tN0 : String := Bundle.tN
def xIO : String := "java/lang/IndexOutOfBoundsException"
def xIA : String := "java/lang/IllegalArgumentException"
def xIS : String := "java/lang/IllegalStateException"
abbrev xSup : List String := ["java/lang/RuntimeException", "java/lang/Exception"]
/-- the texts -/
abbrev gStr : List (Nat × String) := [(39, "no such owner or place"), (53, "value or secrecy is out of range"), (68, "there are 16 rows"), (97, "value is out of range"), (109, "no such person or place"), (111, "rank is out of range"), (129, "no such person"), (131, "nobody is their own master"), (142, "no such setting"), (216, "no state is saved"), (221, "what is not 0 to 4"), (226, "what is not 0 to 7"), (234, "place is below 0"), (239, "what is not 0 to 9"), (244, "what is not 0 to 3"), (259, "no such asker or place"), (319, "no such row"), (321, "no such rule"), (323, "least or greatest is out of range")]
def gE (A : Nat → Prop) (U : State) : Prop := vx_Zq Bundle.tN "UNASSIGNED_STACK" Bundle.steD A U U.heap ∧ vx_Zq Bundle.tN "SUPPRESSED_SENTINEL" Bundle.listD A U U.heap ∧
  (∀ (k : Nat) (q : Nat × String), gStr[k]? = some q → ∃ a, vk_R RX8 q.1 q.2 a U) ∧ va_Nw (.castable xIO xIO) U ∧ va_Nw (.castable xIA xIA) U ∧ va_Nw (.castable xIS xIS) U ∧
  True ∧ True ∧ True ∧ va_Nw (.declares (Bundle.initS "java/lang/RuntimeException")) U ∧ va_Nw (.declares (Bundle.initS "java/lang/Exception")) U ∧ va_Nw (.declares (Bundle.initS Bundle.tN)) U
theorem gE_call {A : Nat → Prop} {U : State} {g : JFrame} {mk : MethodId} {a : Array Value} (h : gE A U) : gE A (U.calling g mk a) :=
  ⟨vx_Zq.moved (u := U) (U := U.calling g mk a) (Vm.Alike.refl U.vm) h.1, vx_Zq.moved (u := U) (U := U.calling g mk a) (Vm.Alike.refl U.vm) h.2.1,
    fun k q hk => (h.2.2.1 k q hk).imp (fun _ => vk_R.same (u := U) (U := U.calling g mk a) rfl),
    va_Nw.same rfl (u := U) (U := U.calling g mk a) rfl h.2.2.2.1, va_Nw.same rfl (u := U) (U := U.calling g mk a) rfl h.2.2.2.2.1, va_Nw.same rfl (u := U) (U := U.calling g mk a) rfl h.2.2.2.2.2.1,
    trivial, trivial, trivial,
    va_Nw.same rfl (u := U) (U := U.calling g mk a) rfl h.2.2.2.2.2.2.2.2.2.1, va_Nw.same rfl (u := U) (U := U.calling g mk a) rfl h.2.2.2.2.2.2.2.2.2.2.1, va_Nw.same rfl (u := U) (U := U.calling g mk a) rfl h.2.2.2.2.2.2.2.2.2.2.2⟩
/-- the same at a callee's start -/
theorem gE_down {A B : Nat → Prop} {s U : State} {H0 H : Heap} {locs : List Loc} (h : gE A s) (hH : s.heap = H0) (hS : va_S A H0 H locs) (hB : ∀ q, B q → A q) (hU : U.heap = H) (hW : s.WarmedH U.vm) : gE B U := by
  subst hH
  subst hU
  obtain ⟨h1, h2, h3, h4, h5, h6, h7, h8, h9, i1, i2, i3⟩ := h
  exact ⟨vx_Zq.narrow (vx_Zq.moved hW.alike (h1.kept hS.2.1)) hB, vx_Zq.narrow (vx_Zq.moved hW.alike (h2.kept hS.2.1)) hB, fun k q hk => (h3 k q hk).imp (fun _ => vk_R.warm hW),
    va_Nw.warmC hW h4, va_Nw.warmC hW h5, va_Nw.warmC hW h6, trivial, trivial, trivial, va_Nw.warmD hW i1, va_Nw.warmD hW i2, va_Nw.warmD hW i3⟩
/-- a start of a method that may throw -/
def wsE (Γ : Gm) (sz : Nat) (ws : va_W) : State → Prop := fun U => ws0 Γ sz ws U ∧ gE (va_A ws sz) U
theorem wsE_blind {Γ : Gm} {ws : va_W} {av : List Value} {sz : Nat} : FrameBlind (va_Pc av (wsE Γ sz ws)) := fun _ _ _ _ h => ⟨h.1, ⟨h.2.1.1, h.2.1.2.1, gK_call h.2.1.2.2.1, h.2.1.2.2.2⟩, gE_call h.2.2⟩
/-- thrown: which, and nothing old is changed -/
abbrev xX (sz : Nat) (px : String → Prop) : String → State → State → Prop := vx_X (S := Unit) (fun _ => True) (fun E _ _ => px E) (fun q => sz ≤ q)
abbrev MXi {S : Type} (l : Launch) (y : MethodName) (ws : List Cond) (rm : Room) (Γ : Gm) (sz : Nat) (w : va_W) (av : List Value) (post : Int32 → S → Prop) (w1 : S → va_W) (px : String → Prop) (mc ms : Nat) : Prop :=
  vx_Met l y ws rm (va_Pc av (wsE Γ sz w)) (va_Qi post (fun u t => wd Γ (va_A w sz) (w1 u) t) (va_A w sz)) (xX sz px) mc ms (va_A w sz)
abbrev MXv {S : Type} (l : Launch) (y : MethodName) (ws : List Cond) (rm : Room) (Γ : Gm) (sz : Nat) (w : va_W) (av : List Value) (post : S → Prop) (w1 : S → va_W) (px : String → Prop) (mc ms : Nat) : Prop :=
  vx_Met l y ws rm (va_Pc av (wsE Γ sz w)) (va_Qv post (fun u t => wd Γ (va_A w sz) (w1 u) t) (va_A w sz)) (xX sz px) mc ms (va_A w sz)
theorem noTr {l : Launch} (h : l.flags = flags0) : l.stackTraces = false := by
  unfold Launch.stackTraces; rw [h]; decide +kernel
section BX
variable {l : Launch} {y : MethodName} {ws ws' : List Cond} {rm : Room} {Γ : Gm} {w : va_W} {av : List Value} {cc : ByteArray} {maxL : Nat} {ret : Option FieldType} {own : String} {Qc : Array Value → State → Outcome → State → Prop} {XC : String → State → State → Prop}
theorem mX {sz mc ms : Nat} {free : Nat → Prop} (hy : plainName y.cls = true) (hw : ws = Cond.code y cc maxL ret :: ws') (hcls : y.cls = own) (hlen : (lg_sl av).length ≤ maxL)
    (body : ∀ (p : Program) (e : Env) (s : State) (m : MethodId) (args : Array Value) (below : List Frame) (meth : Method) (c : Code), CallFix p m c cc maxL s args ws own → meth.sig.returnType = ret → meth.locks = false → (∀ x ∈ c.exceptionTable.toList, False) → s.heap.size = sz → gE (va_A w sz) s → gK Γ s → gP Γ w s.heap → va_D (va_A w sz) w →
      (∀ q : Nat, s.heap.size ≤ q → va_A w sz q) → va_S (va_A w sz) s.heap s.heap [] →
      ∀ ls : Array Slot, lv_has ls maxL (lv_args 0 av) → W p l e rm s m args below meth c s.heap [] 0 0 (vx_MQ below Qc XC args s mc ms free) (F0 m 0 ls [])) :
    vx_Met l y ws rm (va_Pc av (wsE Γ sz w)) Qc XC mc ms free := by
  refine vx_ofW (cc := cc) (maxL := maxL) (ret := ret) hy hw ?_
  intro p e s m args below meth c s₁ B hml htab hv
  obtain ⟨rfl, ⟨hsz, hP, hK, hD0⟩, hE⟩ := hv
  subst hcls
  have hl := lv_entry av (n := maxL) hlen
  rw [lg_entry_eq]
  exact body p e s m _ below meth c ⟨B.exec, B.bytes, hml, findClass_of_methodNamed B.named, atoms_spec (ws := ws) B.pre⟩ B.returns B.notSynchronized htab hsz hE hK hP hD0.self (fun q h => Or.inr (by rw [← hsz]; exact h)) va_S.rf _ hl
end BX
section CX
variable {p : Program} {l : Launch} {e : Env} {R : Room} {s : State} {m : MethodId} {args : Array Value} {below : List Frame} {meth : Method} {c : Code} {H : Heap} {locs : List Loc} {cells slots : Nat} {Q : State → Prop}
variable {Ts wy wy' : List Cond} {cc bytes : ByteArray} {nL maxL index n pc : Nat} {own C : String} {y : MethodName} {ret : Option FieldType} {rm : Room} {b : Nat} {As rest st : List Value} {ls : Array Slot} {Γ : Gm} {ws wc wr : va_W}
variable {S0 : Type} {mc ms : Nat} {A0 : Nat → Prop}
/-- a method that may throw, called on an object, over the first part of a world; thrown: the world stays, the next frame is asked -/
theorem xWi {post : Int32 → S0 → Prop} {w1 : S0 → va_W} {px : String → Prop} (hM : vx_Met l y wy rm (va_Pc (.ref b :: As) (wsE Γ H.size wc)) (va_Qi post (fun u t => wd Γ (va_A wc H.size) (w1 u) t) (va_A wc H.size)) (xX H.size px) mc ms (va_A wc H.size)) (hE : gE A0 s)
    (S : CallFix p m c cc nL s args Ts own) (k : Cal y wy rm bytes maxL ret n mc ms) (hT : GoodIn Ts (wsV own index C y wy)) (hC : y.cls = C) (hR : rm.frames + 1 ≤ R.frames ∧ 8 + (maxL + 11) + rm.locals ≤ R.locals)
    (hK : gK Γ s) (hP : gP Γ (wc ++ wr) H) (hD : va_D A0 (wc ++ wr)) (hS : va_S A0 s.heap H locs) (hA : ∀ q, s.heap.size ≤ q → A0 q)
    (q0 : Nat) {ci : Nat} {q : vw_C} {fs : List Value} (hc : vwCl[ci]? = some q) (he : wc[q0]? = some (b, .inr (ci, fs))) (hq : q.1 = C) (hn : As.length = n) (hl : ls.size = nL) (hroom : (rest.map fun v => v.category).sum ≤ 8)
    (hst : st = As.reverse ++ .ref b :: rest) (hdg : decode cc pc = .ok (.invokevirtual index, 3)) (hce : cells + mc ≤ R.cells ∧ slots + ms ≤ R.slots)
    (kx : ∀ (E : String) (ce : Cell) (q9 : Addr) (H1 : Heap) (locs1 : List Loc), px E → gP Γ (wc ++ wr) H1 → va_S A0 s.heap H1 locs1 → H.size ≤ H1.size → (∀ q : Nat, q < H.size → H1[q]? = H[q]?) → H1[q9]? = some ce → ce.vm = .none → s.vm.findClass E = some ce.cls → vx_W p l e R s m args below meth c H1 locs1 (cells + mc) (slots + ms) Q (F0 m pc ls rest) q9)
    (kk : ∀ (r : Int32) (u : S0) (H1 : Heap) (locs1 : List Loc), post r u → gP Γ (w1 u ++ wr) H1 → va_D A0 (w1 u ++ wr) → va_S A0 s.heap H1 locs1 → W p l e R s m args below meth c H1 locs1 (cells + mc) (slots + ms) Q (F0 m (pc + 3) ls (.int r :: rest))) : W p l e R s m args below meth c H locs cells slots Q (F0 m pc ls st) := by
  subst hst
  subst hq
  have hP2 := gP_l hP
  have hF := gF hD hS hA
  refine vx_calli (vx_runV S hM (k.V S.2.2.2.2 hT hC hR) ⟨wsE_blind, va_recv hK hP2 hc he, fun U hU hW => ⟨rfl, ⟨by rw [hU], by rw [hU]; exact hP2, va_K.moved hW.alike hK, (gD_l hD).weaken (fun _ _ _ _ => trivial)⟩, gE_down hE rfl hS hF hU hW⟩⟩ rfl hn hl rfl (lv_room hroom) hdg hce) hS (fun q _ h => hF q h) hF (fun q h1 h2 => absurd h1 (Nat.not_lt.mpr h2)) ?_ ?_
  · intro E ce q9 u t H1 locs1 ht hvm hp hB hz1 hk1 hS1 hce9 hv9 hcl9
    have hk2 : ∀ q : Nat, q < H.size → H1[q]? = H[q]? := fun q hq => hk1 q hq (Nat.not_le.mpr hq)
    exact kx E ce q9 H1 locs1 hB (hP.kept (fun k q hk => hk2 q.1 (hP k q hk).lt)) hS1 hz1 hk2 hce9 hv9 hcl9
  · intro r u t H1 locs1 ht hvm hp hB hz1 hk1 hS1
    obtain ⟨hP1, hK1, hD1⟩ := hB
    rw [ht] at hP1
    obtain ⟨hP3, hD3⟩ := app_join hP hD hk1 hF hP1 hD1
    exact kk r u H1 locs1 hp hP3 hD3 hS1
theorem xWv {post : S0 → Prop} {w1 : S0 → va_W} {px : String → Prop} (hM : vx_Met l y wy rm (va_Pc (.ref b :: As) (wsE Γ H.size wc)) (va_Qv post (fun u t => wd Γ (va_A wc H.size) (w1 u) t) (va_A wc H.size)) (xX H.size px) mc ms (va_A wc H.size)) (hE : gE A0 s)
    (S : CallFix p m c cc nL s args Ts own) (k : Cal y wy rm bytes maxL ret n mc ms) (hT : GoodIn Ts (wsV own index C y wy)) (hC : y.cls = C) (hR : rm.frames + 1 ≤ R.frames ∧ 8 + (maxL + 11) + rm.locals ≤ R.locals)
    (hK : gK Γ s) (hP : gP Γ (wc ++ wr) H) (hD : va_D A0 (wc ++ wr)) (hS : va_S A0 s.heap H locs) (hA : ∀ q, s.heap.size ≤ q → A0 q)
    (q0 : Nat) {ci : Nat} {q : vw_C} {fs : List Value} (hc : vwCl[ci]? = some q) (he : wc[q0]? = some (b, .inr (ci, fs))) (hq : q.1 = C) (hn : As.length = n) (hl : ls.size = nL) (hroom : (rest.map fun v => v.category).sum ≤ 8)
    (hst : st = As.reverse ++ .ref b :: rest) (hdg : decode cc pc = .ok (.invokevirtual index, 3)) (hce : cells + mc ≤ R.cells ∧ slots + ms ≤ R.slots)
    (kx : ∀ (E : String) (ce : Cell) (q9 : Addr) (H1 : Heap) (locs1 : List Loc), px E → gP Γ (wc ++ wr) H1 → va_S A0 s.heap H1 locs1 → H.size ≤ H1.size → (∀ q : Nat, q < H.size → H1[q]? = H[q]?) → H1[q9]? = some ce → ce.vm = .none → s.vm.findClass E = some ce.cls → vx_W p l e R s m args below meth c H1 locs1 (cells + mc) (slots + ms) Q (F0 m pc ls rest) q9)
    (kk : ∀ (u : S0) (H1 : Heap) (locs1 : List Loc), post u → gP Γ (w1 u ++ wr) H1 → va_D A0 (w1 u ++ wr) → va_S A0 s.heap H1 locs1 → W p l e R s m args below meth c H1 locs1 (cells + mc) (slots + ms) Q (F0 m (pc + 3) ls rest)) : W p l e R s m args below meth c H locs cells slots Q (F0 m pc ls st) := by
  subst hst
  subst hq
  have hP2 := gP_l hP
  have hF := gF hD hS hA
  refine vx_callv (vx_runV S hM (k.V S.2.2.2.2 hT hC hR) ⟨wsE_blind, va_recv hK hP2 hc he, fun U hU hW => ⟨rfl, ⟨by rw [hU], by rw [hU]; exact hP2, va_K.moved hW.alike hK, (gD_l hD).weaken (fun _ _ _ _ => trivial)⟩, gE_down hE rfl hS hF hU hW⟩⟩ rfl hn hl rfl (lv_room hroom) hdg hce) hS (fun q _ h => hF q h) hF (fun q h1 h2 => absurd h1 (Nat.not_lt.mpr h2)) ?_ ?_
  · intro E ce q9 u t H1 locs1 ht hvm hp hB hz1 hk1 hS1 hce9 hv9 hcl9
    have hk2 : ∀ q : Nat, q < H.size → H1[q]? = H[q]? := fun q hq => hk1 q hq (Nat.not_le.mpr hq)
    exact kx E ce q9 H1 locs1 hB (hP.kept (fun k q hk => hk2 q.1 (hP k q hk).lt)) hS1 hz1 hk2 hce9 hv9 hcl9
  · intro u t H1 locs1 ht hvm hp hB hz1 hk1 hS1
    obtain ⟨hP1, hK1, hD1⟩ := hB
    rw [ht] at hP1
    obtain ⟨hP3, hD3⟩ := app_join hP hD hk1 hF hP1 hD1
    exact kk u H1 locs1 hp hP3 hD3 hS1
/-- a static one, without a world -/
theorem xSv {post : S0 → Prop} {w1 : S0 → va_W} {px : String → Prop} (hM : vx_Met l y wy rm (va_Pc As (wsE Γ H.size [])) (va_Qv post (fun u t => wd Γ (va_A [] H.size) (w1 u) t) (va_A [] H.size)) (xX H.size px) mc ms (va_A [] H.size)) (hE : gE A0 s)
    (S : CallFix p m c cc nL s args Ts own) (k : Cal y wy rm bytes maxL ret n mc ms) (hT : GoodIn Ts (va_wsS own index y wy)) (hR : rm.frames + 1 ≤ R.frames ∧ 8 + (maxL + 11) + rm.locals ≤ R.locals)
    (hK : gK Γ s) (hP : gP Γ ws H) (hD : va_D A0 ws) (hS : va_S A0 s.heap H locs) (hA : ∀ q, s.heap.size ≤ q → A0 q) (hn : As.length = n) (hl : ls.size = nL) (hroom : (rest.map fun v => v.category).sum ≤ 8)
    (hst : st = As.reverse ++ rest) (hdg : decode cc pc = .ok (.invokestatic index, 3)) (hce : cells + mc ≤ R.cells ∧ slots + ms ≤ R.slots)
    (kx : ∀ (E : String) (ce : Cell) (q9 : Addr) (H1 : Heap) (locs1 : List Loc), px E → gP Γ ws H1 → va_S A0 s.heap H1 locs1 → H.size ≤ H1.size → (∀ q : Nat, q < H.size → H1[q]? = H[q]?) → H1[q9]? = some ce → ce.vm = .none → s.vm.findClass E = some ce.cls → vx_W p l e R s m args below meth c H1 locs1 (cells + mc) (slots + ms) Q (F0 m pc ls rest) q9)
    (kk : ∀ (u : S0) (H1 : Heap) (locs1 : List Loc), post u → gP Γ ws H1 → va_S A0 s.heap H1 locs1 → W p l e R s m args below meth c H1 locs1 (cells + mc) (slots + ms) Q (F0 m (pc + 3) ls rest)) : W p l e R s m args below meth c H locs cells slots Q (F0 m pc ls st) := by
  subst hst
  have hF : ∀ q, va_A [] H.size q → A0 q := fun q h => by
    rcases gA_m h with ⟨e, h⟩ | h
    · cases h
    · exact hA q (Nat.le_trans hS.1 h)
  have h0P : gP Γ [] H := fun k q h => by simp at h
  have h0D : va_D (fun _ => True) [] := ⟨fun i j p q h => by simp at h, fun k q h => by simp at h⟩
  refine vx_callv (vx_runS S hM (k.S S.2.2.2.2 hT hR) ⟨wsE_blind, fun U hU hW => ⟨rfl, ⟨by rw [hU], by rw [hU]; exact h0P, va_K.moved hW.alike hK, h0D⟩, gE_down hE rfl hS hF hU hW⟩⟩ rfl hn hl rfl (lv_room hroom) hdg hce) hS (fun q _ h => hF q h) hF (fun q h1 h2 => absurd h1 (Nat.not_lt.mpr h2)) ?_ ?_
  · intro E ce q9 u t H1 locs1 ht hvm hp hB hz1 hk1 hS1 hce9 hv9 hcl9
    have hk2 : ∀ q : Nat, q < H.size → H1[q]? = H[q]? := fun q hq => hk1 q hq (Nat.not_le.mpr hq)
    exact kx E ce q9 H1 locs1 hB (hP.kept (fun k q hk => hk2 q.1 (hP k q hk).lt)) hS1 hz1 hk2 hce9 hv9 hcl9
  · intro u t H1 locs1 ht hvm hp hB hz1 hk1 hS1
    have hk2 : ∀ q : Nat, q < H.size → H1[q]? = H[q]? := fun q hq => hk1 q hq (fun h => by
      rcases gA_m h with ⟨e, h⟩ | h
      · cases h
      · omega)
    exact kk u H1 locs1 hp (hP.kept (fun k q hk => hk2 q.1 (hP k q hk).lt)) hS1
/-- out of this method, too -/
theorem xOut {sz0 : Nat} {Qc : Array Value → State → Outcome → State → Prop} {px : String → Prop} {free : Nat → Prop} {E : String} {ce : Cell} {q9 : Addr} (htab : ∀ x ∈ c.exceptionTable.toList, False) (hlk : meth.locks = false) (h1 : H[q9]? = some ce) (h2 : ce.vm = .none) (h3 : s.vm.findClass E = some ce.cls)
    (hp : px E) (hz : s.heap.size ≤ H.size) (hk : ∀ q : Nat, q < s.heap.size → H[q]? = s.heap[q]?) (hsz : s.heap.size = sz0) (hf : ∀ z ∈ locs, free z.base) (hc : cells ≤ mc) (hs : slots ≤ ms) : vx_W p l e R s m args below meth c H locs cells slots (vx_MQ below Qc (xX sz0 px) args s mc ms free) (F0 m pc ls rest) q9 :=
  vx_out (fun x hx => (htab x hx).elim) hlk h1 h2 h3 (fun t ht _ => ⟨(), trivial, hp, by rw [ht]; exact hz, fun q hq hn => by rw [ht]; exact hk q hq⟩) hf hc hs
/-- throw new E(text) -/
theorem xThr {sz0 ik is ic : Nat} {text cls : String} {Qc : Array Value → State → Outcome → State → Prop} {px : String → Prop} {free A : Nat → Prop} (hl : l.stackTraces = false) (S : CallFix p m c cc nL s args Ts RX8) (hE : gE A s) (hX : cls = xIO ∨ cls = xIA ∨ cls = xIS)
    (hk : (Cond.classLink RX8 ik cls).before args s = true) (hini : (Cond.initialized cls).before args s = true) (js : Nat) (hstr : gStr[js]? = some (is, text)) (hat : ∀ w ∈ (vx_atS RX8 ic cls xSup).filter goodWord, w ∈ Ts) (hbad : (vx_atS RX8 ic cls xSup).filter (fun w => !goodWord w) = [.declares (Bundle.initS "java/lang/RuntimeException"), .declares (Bundle.initS "java/lang/Exception"), .declares (Bundle.initS Bundle.tN), .castable cls cls])
    (hgood : (Cond.classLink RX8 ik cls :: Cond.initialized cls :: vx_atS RX8 ic cls xSup).all vx_ot = true) (hfit : Bundle.fit cls = true)
    (hS : va_S A s.heap H locs) (hsize : ls.size = nL) (d0 : decode cc pc = .ok (.new ik, 3)) (d3 : decode cc (pc + 3) = .ok (.dup, 1)) (d4 : decode cc (pc + 4) = .ok (.ldc is, 2)) (d6 : decode cc (pc + 6) = .ok (.invokespecial ic, 3)) (d9 : decode cc (pc + 9) = .ok (.athrow, 1))
    (htab : ∀ x ∈ c.exceptionTable.toList, False) (hRf : 5 < R.frames) (hRl : (rest.map fun v => v.category).sum + 82 ≤ R.locals) (hRc : cells + 1 ≤ R.cells) (hRs : slots + 6 ≤ R.slots) (hlk : meth.locks = false)
    (hp : px cls) (hk2 : ∀ q : Nat, q < s.heap.size → H[q]? = s.heap[q]?) (hsz : s.heap.size = sz0) (hf : ∀ z ∈ locs, free z.base) (hc : cells + 1 ≤ mc) (hs : slots + 6 ≤ ms) :
    W p l e R s m args below meth c H locs cells slots (vx_MQ below Qc (xX sz0 px) args s mc ms free) (F0 m pc ls rest) := by
  obtain ⟨hx, hb, hml, hown, hts⟩ := S
  obtain ⟨e1, e2, e3, e4, e5, e6, -, -, -, i1, i2, i3⟩ := hE
  obtain ⟨sa, hsa⟩ := e3 js _ hstr
  have hcast : (Cond.castable cls cls).before args s = true := by
    rcases hX with rfl | rfl | rfl
    · exact va_Nw.use rfl e4
    · exact va_Nw.use rfl e5
    · exact va_Nw.use rfl e6
  refine vx_throwS hx hb hl hown hfit (by decide) hk hini hsa (vx_hat (fun w hw => hts w (hat w hw)) (by rw [hbad]; exact fun w h => h) (vx_c (va_Nw.use rfl i1) (vx_c (va_Nw.use rfl i2) (vx_c (va_Nw.use rfl i3) (vx_c hcast vx_n))))) (fun w hw => List.all_eq_true.mp hgood w hw) e1 e2 hS (hsize.trans hml.symm) d0 d3 d4 d6 d9 (fun x hx => (htab x hx).elim) hRf hRl hRc hRs hlk (fun t _ hz hq => ⟨(), trivial, hp, Nat.le_trans hS.1 hz, fun q hq1 _ => (hq q (Nat.lt_of_lt_of_le hq1 hS.1)).trans (hk2 q hq1)⟩) hf hc hs
/-- .. with a wide load -/
theorem xThrW {sz0 ik is ic : Nat} {text cls : String} {Qc : Array Value → State → Outcome → State → Prop} {px : String → Prop} {free A : Nat → Prop} (hl : l.stackTraces = false) (S : CallFix p m c cc nL s args Ts RX8) (hE : gE A s) (hX : cls = xIO ∨ cls = xIA ∨ cls = xIS)
    (hk : (Cond.classLink RX8 ik cls).before args s = true) (hini : (Cond.initialized cls).before args s = true) (js : Nat) (hstr : gStr[js]? = some (is, text)) (hat : ∀ w ∈ (vx_atS RX8 ic cls xSup).filter goodWord, w ∈ Ts) (hbad : (vx_atS RX8 ic cls xSup).filter (fun w => !goodWord w) = [.declares (Bundle.initS "java/lang/RuntimeException"), .declares (Bundle.initS "java/lang/Exception"), .declares (Bundle.initS Bundle.tN), .castable cls cls])
    (hgood : (Cond.classLink RX8 ik cls :: Cond.initialized cls :: vx_atS RX8 ic cls xSup).all vx_ot = true) (hfit : Bundle.fit cls = true)
    (hS : va_S A s.heap H locs) (hsize : ls.size = nL) (d0 : decode cc pc = .ok (.new ik, 3)) (d3 : decode cc (pc + 3) = .ok (.dup, 1)) (d4 : decode cc (pc + 4) = .ok (.ldc_w is, 3)) (d7 : decode cc (pc + 7) = .ok (.invokespecial ic, 3)) (d10 : decode cc (pc + 10) = .ok (.athrow, 1))
    (htab : ∀ x ∈ c.exceptionTable.toList, False) (hRf : 5 < R.frames) (hRl : (rest.map fun v => v.category).sum + 82 ≤ R.locals) (hRc : cells + 1 ≤ R.cells) (hRs : slots + 6 ≤ R.slots) (hlk : meth.locks = false)
    (hp : px cls) (hk2 : ∀ q : Nat, q < s.heap.size → H[q]? = s.heap[q]?) (hsz : s.heap.size = sz0) (hf : ∀ z ∈ locs, free z.base) (hc : cells + 1 ≤ mc) (hs : slots + 6 ≤ ms) :
    W p l e R s m args below meth c H locs cells slots (vx_MQ below Qc (xX sz0 px) args s mc ms free) (F0 m pc ls rest) := by
  obtain ⟨hx, hb, hml, hown, hts⟩ := S
  obtain ⟨e1, e2, e3, e4, e5, e6, -, -, -, i1, i2, i3⟩ := hE
  obtain ⟨sa, hsa⟩ := e3 js _ hstr
  have hcast : (Cond.castable cls cls).before args s = true := by
    rcases hX with rfl | rfl | rfl
    · exact va_Nw.use rfl e4
    · exact va_Nw.use rfl e5
    · exact va_Nw.use rfl e6
  refine vx_throwSW hx hb hl hown hfit (by decide) hk hini hsa (vx_hat (fun w hw => hts w (hat w hw)) (by rw [hbad]; exact fun w h => h) (vx_c (va_Nw.use rfl i1) (vx_c (va_Nw.use rfl i2) (vx_c (va_Nw.use rfl i3) (vx_c hcast vx_n))))) (fun w hw => List.all_eq_true.mp hgood w hw) e1 e2 hS (hsize.trans hml.symm) d0 d3 d4 d7 d10 (fun x hx => (htab x hx).elim) hRf hRl hRc hRs hlk (fun t _ hz hq => ⟨(), trivial, hp, Nat.le_trans hS.1 hz, fun q hq1 _ => (hq q (Nat.lt_of_lt_of_le hq1 hS.1)).trans (hk2 q hq1)⟩) hf hc hs
end CX
