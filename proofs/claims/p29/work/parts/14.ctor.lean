/-! Constructors: private ones are called by the nest; the ring's array. -/
def gN (U : State) : Prop := va_AO RX6 U ∧ va_Nw (.methodLinkNest RX6 11 yX5_init RX8) U ∧ va_Nw (.methodLinkNest RX6 20 yX4_init RX8) U ∧ va_Nw (.methodLinkNest RX6 27 yX2_init RX8) U ∧ va_Nw (.methodLinkNest RX6 34 yX7_init RX8) U ∧ va_Nw (.methodLinkNest RX8 25 yX0_init RX8) U
theorem gN_warm {s U : State} (hW : s.WarmedH U.vm) (h : gN s) : gN U :=
  ⟨va_AO.moved hW.alike h.1, va_Nw.warmM hW h.2.1, va_Nw.warmM hW h.2.2.1, va_Nw.warmM hW h.2.2.2.1, va_Nw.warmM hW h.2.2.2.2.1, va_Nw.warmM hW h.2.2.2.2.2⟩
theorem gN_call {U : State} {g : JFrame} {mk : MethodId} {a : Array Value} (h : gN U) : gN (U.calling g mk a) :=
  ⟨va_AO.moved (u := U) (U := U.calling g mk a) (Vm.Alike.refl U.vm) h.1, va_Nw.same rfl (u := U) (U := U.calling g mk a) rfl h.2.1, va_Nw.same rfl (u := U) (U := U.calling g mk a) rfl h.2.2.1, va_Nw.same rfl (u := U) (U := U.calling g mk a) rfl h.2.2.2.1, va_Nw.same rfl (u := U) (U := U.calling g mk a) rfl h.2.2.2.2.1, va_Nw.same rfl (u := U) (U := U.calling g mk a) rfl h.2.2.2.2.2⟩
/-- a start with the nest's links -/
def wsN (Γ : Gm) (sz : Nat) (ws : va_W) : State → Prop := fun U => ws0 Γ sz ws U ∧ gN U
theorem wsN_blind {Γ : Gm} {ws : va_W} {av : List Value} {sz : Nat} : FrameBlind (va_Pc av (wsN Γ sz ws)) := fun _ _ _ _ h => ⟨h.1, ⟨h.2.1.1, h.2.1.2.1, gK_call h.2.1.2.2.1, h.2.1.2.2.2⟩, gN_call h.2.2⟩
abbrev MNv {S : Type} (l : Launch) (y : MethodName) (ws : List Cond) (rm : Room) (Γ : Gm) (sz : Nat) (w : va_W) (av : List Value) (post : S → Prop) (w1 : S → va_W) (mc ms : Nat) : Prop :=
  Met l y ws rm (va_Pc av (wsN Γ sz w)) (va_Qv post (fun u t => wd Γ (va_A w sz) (w1 u) t) (va_A w sz)) mc ms (va_A w sz)
theorem mN {l : Launch} {y : MethodName} {ws ws' : List Cond} {rm : Room} {Γ : Gm} {w : va_W} {av : List Value} {cc : ByteArray} {maxL : Nat} {ret : Option FieldType} {own : String} {Qc : Array Value → State → Outcome → State → Prop} {sz mc ms : Nat} {free : Nat → Prop}
    (hy : plainName y.cls = true) (hw : ws = Cond.code y cc maxL ret :: ws') (hcls : y.cls = own) (hlen : (lg_sl av).length ≤ maxL)
    (body : ∀ (p : Program) (e : Env) (s : State) (m : MethodId) (args : Array Value) (below : List Frame) (meth : Method) (c : Code), CallFix p m c cc maxL s args ws own → meth.sig.returnType = ret → meth.locks = false → (y.name = "<init>" → meth.name = "<init>") → s.heap.size = sz → gN s → gK Γ s → gP Γ w s.heap → va_D (va_A w sz) w →
      (∀ q : Nat, s.heap.size ≤ q → va_A w sz q) → va_S (va_A w sz) s.heap s.heap [] →
      ∀ ls : Array Slot, lv_has ls maxL (lv_args 0 av) → W p l e rm s m args below meth c s.heap [] 0 0 (MQ below Qc args s mc ms free) (F0 m 0 ls [])) :
    Met l y ws rm (va_Pc av (wsN Γ sz w)) Qc mc ms free := by
  refine Met.ofW (cc := cc) (maxL := maxL) (ret := ret) hy hw ?_
  intro p e s m args below meth c s₁ B hml hv
  obtain ⟨rfl, ⟨hsz, hP, hK, hD0⟩, hN⟩ := hv
  subst hcls
  have hl := lv_entry av (n := maxL) hlen
  rw [lg_entry_eq]
  exact body p e s m _ below meth c ⟨B.exec, B.bytes, hml, findClass_of_methodNamed B.named, atoms_spec (ws := ws) B.pre⟩ B.returns B.notSynchronized (fun h => (name_of_methodNamed B.named B.method).1.trans h) hsz hN hK hP hD0.self (fun q h => Or.inr (by rw [← hsz]; exact h)) va_S.rf _ hl
section AI
variable {p : Program} {l : Launch} {e : Env} {R : Room} {s : State} {m : MethodId} {args : Array Value} {below : List Frame} {meth : Method} {c : Code} {H : Heap} {locs : List Loc} {cells slots : Nat} {Q : State → Prop}
variable {Ts wy wy' : List Cond} {cc bytes : ByteArray} {nL maxL index n pc : Nat} {own C host : String} {y : MethodName} {rm : Room} {b : Nat} {As rest st : List Value} {ls : Array Slot} {Γ : Gm} {ws wc wr : va_W}
variable {S0 : Type} {mc ms : Nat} {A0 : Nat → Prop} {H0 : Heap}
/-- a constructor called over the first part of a world -/
theorem aIv {post : S0 → Prop} {w1 : S0 → va_W} (hM : Met l y wy rm (va_Pc (.ref b :: As) (ws0 Γ H.size wc)) (va_Qv post (fun u t => wd Γ (va_A wc H.size) (w1 u) t) (va_A wc H.size)) mc ms (va_A wc H.size))
    (S : CallFix p m c cc nL s args Ts own) (k : Cal y wy rm bytes maxL none n mc ms) (hG : GoodIn Ts wy) (hini : (Cond.initialized y.cls).before args s = true) (hl0 : (Cond.methodLink own index y).before args s = true) (hin0 : (Cond.instanceMethod y).before args s = true) (hy1 : y.name = "<init>") (hR : rm.frames + 1 ≤ R.frames ∧ 8 + (maxL + 11) + rm.locals ≤ R.locals)
    (hK : gK Γ s) (hP : gP Γ (wc ++ wr) H) (hD : va_D A0 (wc ++ wr)) (hS : va_S A0 H0 H locs) (hA : ∀ q, H0.size ≤ q → A0 q) (hn : As.length = n) (hl : ls.size = nL) (hroom : (rest.map fun v => v.category).sum ≤ 8)
    (hst : st = As.reverse ++ .ref b :: rest) (hdg : decode cc pc = .ok (.invokespecial index, 3)) (hce : cells + mc ≤ R.cells ∧ slots + ms ≤ R.slots)
    (kk : ∀ (u : S0) (H1 : Heap) (locs1 : List Loc), post u → gP Γ (w1 u ++ wr) H1 → va_D A0 (w1 u ++ wr) → va_S A0 H0 H1 locs1 → W p l e R s m args below meth c H1 locs1 (cells + mc) (slots + ms) Q (F0 m (pc + 3) ls rest)) : W p l e R s m args below meth c H locs cells slots Q (F0 m pc ls st) := by
  subst hst
  have hP2 := gP_l hP
  have hF := gF hD hS hA
  obtain ⟨⟨w', hw⟩, hrc, hrs, hd⟩ := k
  exact va_callv (va_runI S hM (cwI n S.2.2.2.2 hG hw hrc hrs hini hl0 hin0 hy1 hd hR) ⟨ws0_blind, fun U hU hW => ⟨rfl, by rw [hU], by rw [hU]; exact hP2, va_K.moved hW.alike hK, (gD_l hD).weaken (fun _ _ _ _ => trivial)⟩⟩ rfl hn hl rfl (lv_room hroom) hdg hce) hS (fun q _ h => hF q h) hF
    (fun u t H1 locs1 ht hvm hp hB hz1 hk1 hS1 => by
      obtain ⟨hP1, hK1, hD1⟩ := hB
      rw [ht] at hP1
      obtain ⟨hP3, hD3⟩ := app_join hP hD hk1 hF hP1 hD1
      exact kk u H1 locs1 hp hP3 hD3 hS1)
/-- .. that wants the nest's links -/
theorem aIvG {post : S0 → Prop} {w1 : S0 → va_W} (hM : Met l y wy rm (va_Pc (.ref b :: As) (wsN Γ H.size wc)) (va_Qv post (fun u t => wd Γ (va_A wc H.size) (w1 u) t) (va_A wc H.size)) mc ms (va_A wc H.size)) (hN : gN s)
    (S : CallFix p m c cc nL s args Ts own) (k : Cal y wy rm bytes maxL none n mc ms) (hG : GoodIn Ts wy) (hini : (Cond.initialized y.cls).before args s = true) (hl0 : (Cond.methodLink own index y).before args s = true) (hin0 : (Cond.instanceMethod y).before args s = true) (hy1 : y.name = "<init>") (hR : rm.frames + 1 ≤ R.frames ∧ 8 + (maxL + 11) + rm.locals ≤ R.locals)
    (hK : gK Γ s) (hP : gP Γ (wc ++ wr) H) (hD : va_D A0 (wc ++ wr)) (hS : va_S A0 H0 H locs) (hA : ∀ q, H0.size ≤ q → A0 q) (hn : As.length = n) (hl : ls.size = nL) (hroom : (rest.map fun v => v.category).sum ≤ 8)
    (hst : st = As.reverse ++ .ref b :: rest) (hdg : decode cc pc = .ok (.invokespecial index, 3)) (hce : cells + mc ≤ R.cells ∧ slots + ms ≤ R.slots)
    (kk : ∀ (u : S0) (H1 : Heap) (locs1 : List Loc), post u → gP Γ (w1 u ++ wr) H1 → va_D A0 (w1 u ++ wr) → va_S A0 H0 H1 locs1 → W p l e R s m args below meth c H1 locs1 (cells + mc) (slots + ms) Q (F0 m (pc + 3) ls rest)) : W p l e R s m args below meth c H locs cells slots Q (F0 m pc ls st) := by
  subst hst
  have hP2 := gP_l hP
  have hF := gF hD hS hA
  obtain ⟨⟨w', hw⟩, hrc, hrs, hd⟩ := k
  exact va_callv (va_runI S hM (cwI n S.2.2.2.2 hG hw hrc hrs hini hl0 hin0 hy1 hd hR) ⟨wsN_blind, fun U hU hW => ⟨rfl, ⟨by rw [hU], by rw [hU]; exact hP2, va_K.moved hW.alike hK, (gD_l hD).weaken (fun _ _ _ _ => trivial)⟩, gN_warm hW hN⟩⟩ rfl hn hl rfl (lv_room hroom) hdg hce) hS (fun q _ h => hF q h) hF
    (fun u t H1 locs1 ht hvm hp hB hz1 hk1 hS1 => by
      obtain ⟨hP1, hK1, hD1⟩ := hB
      rw [ht] at hP1
      obtain ⟨hP3, hD3⟩ := app_join hP hD hk1 hF hP1 hD1
      exact kk u H1 locs1 hp hP3 hD3 hS1)
/-- a nest mate's private constructor -/
theorem aIvN {post : S0 → Prop} {w1 : S0 → va_W} (hM : Met l y wy rm (va_Pc (.ref b :: As) (ws0 Γ H.size wc)) (va_Qv post (fun u t => wd Γ (va_A wc H.size) (w1 u) t) (va_A wc H.size)) mc ms (va_A wc H.size)) (hN : va_Nw (.methodLinkNest own index y host) s)
    (S : CallFix p m c cc nL s args Ts own) (k : Cal y wy rm bytes maxL none n mc ms) (hG : GoodIn Ts wy) (hini : (Cond.initialized y.cls).before args s = true) (hin0 : (Cond.instanceMethod y).before args s = true) (hy1 : y.name = "<init>") (hR : rm.frames + 1 ≤ R.frames ∧ 8 + (maxL + 11) + rm.locals ≤ R.locals)
    (hK : gK Γ s) (hP : gP Γ (wc ++ wr) H) (hD : va_D A0 (wc ++ wr)) (hS : va_S A0 H0 H locs) (hA : ∀ q, H0.size ≤ q → A0 q) (hn : As.length = n) (hl : ls.size = nL) (hroom : (rest.map fun v => v.category).sum ≤ 8)
    (hst : st = As.reverse ++ .ref b :: rest) (hdg : decode cc pc = .ok (.invokespecial index, 3)) (hce : cells + mc ≤ R.cells ∧ slots + ms ≤ R.slots)
    (kk : ∀ (u : S0) (H1 : Heap) (locs1 : List Loc), post u → gP Γ (w1 u ++ wr) H1 → va_D A0 (w1 u ++ wr) → va_S A0 H0 H1 locs1 → W p l e R s m args below meth c H1 locs1 (cells + mc) (slots + ms) Q (F0 m (pc + 3) ls rest)) : W p l e R s m args below meth c H locs cells slots Q (F0 m pc ls st) := by
  subst hst
  have hP2 := gP_l hP
  have hF := gF hD hS hA
  obtain ⟨⟨w', hw⟩, hrc, hrs, hd⟩ := k
  exact va_callv (va_runIN S hM ⟨va_cnB n S.2.2.2.2 hG hw hrc hrs hN hini hd hR, hy1, hin0⟩ ⟨ws0_blind, fun U hU hW => ⟨rfl, by rw [hU], by rw [hU]; exact hP2, va_K.moved hW.alike hK, (gD_l hD).weaken (fun _ _ _ _ => trivial)⟩⟩ rfl hn hl rfl (lv_room hroom) hdg hce) hS (fun q _ h => hF q h) hF
    (fun u t H1 locs1 ht hvm hp hB hz1 hk1 hS1 => by
      obtain ⟨hP1, hK1, hD1⟩ := hB
      rw [ht] at hP1
      obtain ⟨hP3, hD3⟩ := app_join hP hD hk1 hF hP1 hD1
      exact kk u H1 locs1 hp hP3 hD3 hS1)
/-- a new ring -/
theorem newQ {N : Nat} {x : Int32} {A : Nat → Prop} (hx : p.tables.exec = Jvm.exec) (hb : c.code = cc) (hown : s.vm.findClass own = some m.cls) (hcl : (Cond.classLink own index RX6).before args s = true) (hN : gN s) (hK : gK Γ s) (hP : gP Γ ws H) (hD : va_D A ws) (hS : va_S A H0 H locs) (hA : ∀ q, H0.size ≤ q → A q)
    (hn : ¬ x < 0) (hN2 : x.toNatClampNeg = N) (hby : N ≤ 1000) (hcells : cells + 1 ≤ R.cells) (hslots : slots + N ≤ R.slots) (hdg : decode cc pc = .ok (.anewarray index, 3))
    (kk : ∀ (q : Nat) (H1 : Heap), gP Γ (ws ++ [(q, .inl (Γ.2.2.1, N, .inr (.inr (.inr (.inr (fun _ => none))))))]) H1 → va_D A (ws ++ [(q, .inl (Γ.2.2.1, N, .inr (.inr (.inr (.inr (fun _ => none))))))]) → va_S A H0 H1 locs → W p l e R s m args below meth c H1 locs (cells + 1) (slots + N) Q (F0 m (pc + 3) ls (.ref q :: rest))) :
    W p l e R s m args below meth c H locs cells slots Q (F0 m pc ls (.int x :: rest)) := by
  refine va_newq hx hb hown hcl hN.1 hK hP hD hS hA hn hN2 (by omega) hcells hslots hdg (fun q cA H1 hK1 hP1 hD1 hS1 => ?_)
  have e : cA = Γ.2.2.1 := by
    have h1 := (hK1.2 2 (cA, .object RX6) rfl).2
    have h2 := (hK.2 1 (Γ.2.2.1, .object RX6) rfl).2
    obtain ⟨_, _, _, _, _, h3⟩ := h1
    obtain ⟨_, _, _, _, _, h4⟩ := h2
    exact Option.some.inj (h3.symm.trans h4)
  subst e
  exact kk q H1 hP1 hD1 hS1
end AI
