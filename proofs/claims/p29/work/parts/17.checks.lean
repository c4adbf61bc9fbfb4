/-! Checks and looks that may throw: they write nothing old. -/
def wsR (Γ : Gm) (sz : Nat) (ws : va_W) : State → Prop := fun U => U.heap.size = sz ∧ gP Γ ws U.heap ∧ gK Γ U ∧ gE (fun q => sz ≤ q) U
theorem wsR_blind {Γ : Gm} {ws : va_W} {av : List Value} {sz : Nat} : FrameBlind (va_Pc av (wsR Γ sz ws)) := fun _ _ _ _ h => ⟨h.1, h.2.1, h.2.2.1, gK_call h.2.2.2.1, gE_call h.2.2.2.2⟩
abbrev MEi (l : Launch) (y : MethodName) (ws : List Cond) (rm : Room) (Γ : Gm) (sz : Nat) (w : va_W) (av : List Value) (post : Int32 → Prop) (px : String → Prop) (mc ms : Nat) : Prop :=
  vx_Met l y ws rm (va_Pc av (wsR Γ sz w)) (va_Qi (S := Unit) (fun r _ => post r) (fun _ _ => True) (fun _ => False)) (xX sz px) mc ms (fun q => sz ≤ q)
abbrev MEv (l : Launch) (y : MethodName) (ws : List Cond) (rm : Room) (Γ : Gm) (sz : Nat) (w : va_W) (av : List Value) (post : Prop) (px : String → Prop) (mc ms : Nat) : Prop :=
  vx_Met l y ws rm (va_Pc av (wsR Γ sz w)) (va_Qv (S := Unit) (fun _ => post) (fun _ _ => True) (fun _ => False)) (xX sz px) mc ms (fun q => sz ≤ q)
theorem mE {l : Launch} {y : MethodName} {ws ws' : List Cond} {rm : Room} {Γ : Gm} {w : va_W} {av : List Value} {cc : ByteArray} {maxL : Nat} {ret : Option FieldType} {own : String} {Qc : Array Value → State → Outcome → State → Prop} {XC : String → State → State → Prop} {sz mc ms : Nat} {free : Nat → Prop}
    (hy : plainName y.cls = true) (hw : ws = Cond.code y cc maxL ret :: ws') (hcls : y.cls = own) (hlen : (lg_sl av).length ≤ maxL)
    (body : ∀ (p : Program) (e : Env) (s : State) (m : MethodId) (args : Array Value) (below : List Frame) (meth : Method) (c : Code), CallFix p m c cc maxL s args ws own → meth.sig.returnType = ret → meth.locks = false → (∀ x ∈ c.exceptionTable.toList, False) → s.heap.size = sz → gE (fun q => sz ≤ q) s → gK Γ s → gP Γ w s.heap →
      ∀ ls : Array Slot, lv_has ls maxL (lv_args 0 av) → W p l e rm s m args below meth c s.heap [] 0 0 (vx_MQ below Qc XC args s mc ms free) (F0 m 0 ls [])) :
    vx_Met l y ws rm (va_Pc av (wsR Γ sz w)) Qc XC mc ms free := by
  refine vx_ofW (cc := cc) (maxL := maxL) (ret := ret) hy hw ?_
  intro p e s m args below meth c s₁ B hml htab hv
  obtain ⟨rfl, hsz, hP, hK, hE⟩ := hv
  subst hcls
  have hl := lv_entry av (n := maxL) hlen
  rw [lg_entry_eq]
  exact body p e s m _ below meth c ⟨B.exec, B.bytes, hml, findClass_of_methodNamed B.named, atoms_spec (ws := ws) B.pre⟩ B.returns B.notSynchronized htab hsz hE hK hP _ hl
theorem eF {s t : State} {H : Heap} {A : Nat → Prop} (hz : s.heap.size ≤ H.size) (hk2 : ∀ q : Nat, q < s.heap.size → H[q]? = s.heap[q]?) (ht : t.heap = H) : va_F A s t := ⟨by rw [ht]; exact hz, fun q hq _ => by rw [ht]; exact hk2 q hq⟩
section CC
variable {p : Program} {l : Launch} {e : Env} {R : Room} {s : State} {m : MethodId} {args : Array Value} {below : List Frame} {meth : Method} {c : Code} {H : Heap} {locs : List Loc} {cells slots : Nat} {Q : State → Prop}
variable {Ts wy wy' : List Cond} {cc bytes : ByteArray} {nL maxL index n pc : Nat} {own C : String} {y : MethodName} {ret : Option FieldType} {rm : Room} {b : Nat} {As rest st : List Value} {ls : Array Slot} {Γ : Gm} {ws wc wr : va_W}
variable {mc ms : Nat} {A0 : Nat → Prop}
theorem cE_keep {H1 : Heap} (hk : ∀ q : Nat, q < H.size → H1[q]? = H[q]?) (hS1 : s.heap.size ≤ H.size) (hk2 : ∀ q : Nat, q < s.heap.size → H[q]? = s.heap[q]?) : ∀ q : Nat, q < s.heap.size → H1[q]? = s.heap[q]? := fun q hq => (hk q (Nat.lt_of_lt_of_le hq hS1)).trans (hk2 q hq)
/-- a check on an object -/
theorem xCv {post : Prop} {px : String → Prop} (hM : vx_Met l y wy rm (va_Pc (.ref b :: As) (wsR Γ H.size wc)) (va_Qv (S := Unit) (fun _ => post) (fun _ _ => True) (fun _ => False)) (xX H.size px) mc ms (fun q => H.size ≤ q)) (hE : gE A0 s)
    (S : CallFix p m c cc nL s args Ts own) (k : Cal y wy rm bytes maxL ret n mc ms) (hT : GoodIn Ts (wsV own index C y wy)) (hC : y.cls = C) (hR : rm.frames + 1 ≤ R.frames ∧ 8 + (maxL + 11) + rm.locals ≤ R.locals)
    (hK : gK Γ s) (hP : gP Γ ws H) (hS : va_S A0 s.heap H locs) (hA : ∀ q, s.heap.size ≤ q → A0 q) (hk2 : ∀ q : Nat, q < s.heap.size → H[q]? = s.heap[q]?) (hws : ws = wc)
    (q0 : Nat) {ci : Nat} {q : vw_C} {fs : List Value} (hc : vwCl[ci]? = some q) (he : wc[q0]? = some (b, .inr (ci, fs))) (hq : q.1 = C) (hn : As.length = n) (hl : ls.size = nL) (hroom : (rest.map fun v => v.category).sum ≤ 8)
    (hst : st = As.reverse ++ .ref b :: rest) (hdg : decode cc pc = .ok (.invokevirtual index, 3)) (hce : cells + mc ≤ R.cells ∧ slots + ms ≤ R.slots)
    (kx : ∀ (E : String) (ce : Cell) (q9 : Addr) (H1 : Heap) (locs1 : List Loc), px E → va_S A0 s.heap H1 locs1 → (∀ q : Nat, q < s.heap.size → H1[q]? = s.heap[q]?) → H1[q9]? = some ce → ce.vm = .none → s.vm.findClass E = some ce.cls → vx_W p l e R s m args below meth c H1 locs1 (cells + mc) (slots + ms) Q (F0 m pc ls rest) q9)
    (kk : ∀ (H1 : Heap) (locs1 : List Loc), post → gP Γ ws H1 → va_S A0 s.heap H1 locs1 → (∀ q : Nat, q < s.heap.size → H1[q]? = s.heap[q]?) → W p l e R s m args below meth c H1 locs1 (cells + mc) (slots + ms) Q (F0 m (pc + 3) ls rest)) : W p l e R s m args below meth c H locs cells slots Q (F0 m pc ls st) := by
  subst hst
  subst hq
  subst hws
  have hF : ∀ q, H.size ≤ q → A0 q := fun q h => hA q (Nat.le_trans hS.1 h)
  refine vx_callv (vx_runV S hM (k.V S.2.2.2.2 hT hC hR) ⟨wsR_blind, va_recv hK hP hc he, fun U hU hW => ⟨rfl, by rw [hU], by rw [hU]; exact hP, va_K.moved hW.alike hK, gE_down hE rfl hS hF hU hW⟩⟩ rfl hn hl rfl (lv_room hroom) hdg hce) hS (fun q _ h => h.elim) hF (fun q h1 h2 => absurd h1 (Nat.not_lt.mpr h2)) ?_ ?_
  · intro E ce q9 u t H1 locs1 ht hvm hp hB hz1 hk1 hS1 hce9 hv9 hcl9
    exact kx E ce q9 H1 locs1 hB hS1 (cE_keep (fun q hq => hk1 q hq (Nat.not_le.mpr hq)) hS.1 hk2) hce9 hv9 hcl9
  · intro u t H1 locs1 ht hvm hp hB hz1 hk1 hS1
    have hk9 : ∀ q : Nat, q < H.size → H1[q]? = H[q]? := fun q hq => hk1 q hq (fun h => h)
    exact kk H1 locs1 hp (hP.kept (fun k q hk => hk9 q.1 (hP k q hk).lt)) hS1 (cE_keep hk9 hS.1 hk2)
/-- a static check -/
theorem xCs {post : Prop} {px : String → Prop} (hM : vx_Met l y wy rm (va_Pc As (wsR Γ H.size [])) (va_Qv (S := Unit) (fun _ => post) (fun _ _ => True) (fun _ => False)) (xX H.size px) mc ms (fun q => H.size ≤ q)) (hE : gE A0 s)
    (S : CallFix p m c cc nL s args Ts own) (k : Cal y wy rm bytes maxL ret n mc ms) (hT : GoodIn Ts (va_wsS own index y wy)) (hR : rm.frames + 1 ≤ R.frames ∧ 8 + (maxL + 11) + rm.locals ≤ R.locals)
    (hK : gK Γ s) (hP : gP Γ ws H) (hS : va_S A0 s.heap H locs) (hA : ∀ q, s.heap.size ≤ q → A0 q) (hk2 : ∀ q : Nat, q < s.heap.size → H[q]? = s.heap[q]?) (hn : As.length = n) (hl : ls.size = nL) (hroom : (rest.map fun v => v.category).sum ≤ 8)
    (hst : st = As.reverse ++ rest) (hdg : decode cc pc = .ok (.invokestatic index, 3)) (hce : cells + mc ≤ R.cells ∧ slots + ms ≤ R.slots)
    (kx : ∀ (E : String) (ce : Cell) (q9 : Addr) (H1 : Heap) (locs1 : List Loc), px E → va_S A0 s.heap H1 locs1 → (∀ q : Nat, q < s.heap.size → H1[q]? = s.heap[q]?) → H1[q9]? = some ce → ce.vm = .none → s.vm.findClass E = some ce.cls → vx_W p l e R s m args below meth c H1 locs1 (cells + mc) (slots + ms) Q (F0 m pc ls rest) q9)
    (kk : ∀ (H1 : Heap) (locs1 : List Loc), post → gP Γ ws H1 → va_S A0 s.heap H1 locs1 → (∀ q : Nat, q < s.heap.size → H1[q]? = s.heap[q]?) → W p l e R s m args below meth c H1 locs1 (cells + mc) (slots + ms) Q (F0 m (pc + 3) ls rest)) : W p l e R s m args below meth c H locs cells slots Q (F0 m pc ls st) := by
  subst hst
  have hF : ∀ q, H.size ≤ q → A0 q := fun q h => hA q (Nat.le_trans hS.1 h)
  have h0P : gP Γ [] H := fun k q h => by simp at h
  refine vx_callv (vx_runS S hM (k.S S.2.2.2.2 hT hR) ⟨wsR_blind, fun U hU hW => ⟨rfl, by rw [hU], by rw [hU]; exact h0P, va_K.moved hW.alike hK, gE_down hE rfl hS hF hU hW⟩⟩ rfl hn hl rfl (lv_room hroom) hdg hce) hS (fun q _ h => h.elim) hF (fun q h1 h2 => absurd h1 (Nat.not_lt.mpr h2)) ?_ ?_
  · intro E ce q9 u t H1 locs1 ht hvm hp hB hz1 hk1 hS1 hce9 hv9 hcl9
    exact kx E ce q9 H1 locs1 hB hS1 (cE_keep (fun q hq => hk1 q hq (Nat.not_le.mpr hq)) hS.1 hk2) hce9 hv9 hcl9
  · intro u t H1 locs1 ht hvm hp hB hz1 hk1 hS1
    have hk9 : ∀ q : Nat, q < H.size → H1[q]? = H[q]? := fun q hq => hk1 q hq (fun h => h)
    exact kk H1 locs1 hp (hP.kept (fun k q hk => hk9 q.1 (hP k q hk).lt)) hS1 (cE_keep hk9 hS.1 hk2)
end CC
