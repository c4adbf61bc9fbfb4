/-! The law's own walk: what it calls, and what lies between two turns. -/
section LC
variable {p : Program} {l : Launch} {e : Env} {R : Room} {s : State} {m : MethodId} {args : Array Value} {below : List Frame} {meth : Method} {c : Code} {H : Heap} {locs : List Loc} {cells slots : Nat} {Q : State → Prop}
variable {Ts : List Cond} {cc : ByteArray} {nL index pc : Nat} {own : String} {rest st : List Value} {ls : Array Slot} {A0 : Nat → Prop}
/-- two equal longs compared -/
theorem rLcmp (hexec : p.tables.exec = Jvm.exec) (hb : c.code = cc) {x : Int64} (hdg : decode cc pc = .ok (.lcmp, 1)) (k : W p l e R s m args below meth c H locs cells slots Q (F0 m (pc + 1) ls (.int 0 :: rest))) : W p l e R s m args below meth c H locs cells slots Q (F0 m pc ls (.long x :: .long x :: rest)) := by
  intro T hT X
  obtain ⟨t, a, b⟩ := k T hT X
  refine ⟨t, ?_, b⟩
  jvm_step X.here [X.here.top, hexec, hb, hdg]
  exact a
def clB (b0 L : Nat) (xs : Nat → Int32) : State → Prop := fun U => b0 < U.heap.size ∧ va_X b0 L xs U U.heap
theorem cl_blind {b0 L : Nat} {xs : Nat → Int32} {av : List Value} : FrameBlind (va_Pc av (clB b0 L xs)) := fun a U g mk h => ⟨h.1, h.2.1, va_X.moved (u := U) (U := U.calling g mk a) (Vm.Alike.refl U.vm) h.2.2⟩
abbrev rm_L_cell : Room := { frames := 0, cells := 0, slots := 0, locals := 0 }
theorem k_L_cell : Cal yL_cell wsL_cell rm_L_cell cL_cell 2 (some .int) 2 0 0 := ⟨⟨_, rfl⟩, rfl, rfl, by decide +kernel⟩
set_option maxHeartbeats 4000000 in
set_option maxRecDepth 100000 in
/-- a cell of the script, or a number where there is none -/
theorem m_L_cell (l : Launch) (b0 L : Nat) (xs : Nat → Int32) (hL : L < 2 ^ 31) (k : Nat) (hk : k < 2 ^ 31) : Met l yL_cell wsL_cell rm_L_cell (va_Pc [.ref b0, .int (nI k)] (clB b0 L xs)) (vp_Si (fun _ => True)) 0 0 (fun _ => False) := by
  refine Met.ofW (cc := cL_cell) (maxL := 2) (ret := some .int) (by decide) rfl ?_
  intro p e s m args below meth c s₁ B hml hv
  obtain ⟨rfl, hbl, hX⟩ := hv
  have hx := B.exec
  have hb := B.bytes
  have hrt := B.returns
  have hlk := B.notSynchronized
  have hbA : ¬ (fun _ : Nat => False) b0 := fun h => h
  have hS : va_S (fun _ : Nat => False) s.heap s.heap [] := va_S.rf
  have hl := lv_entry [.ref b0, .int (nI k)] (n := 2) (Nat.le_of_ble_eq_true rfl)
  rw [lg_entry_eq]
  generalize (lg_sl ([.ref b0, .int (nI k)]) ++ List.replicate (2 - (lg_sl ([.ref b0, .int (nI k)])).length) Slot.unset).toArray = ls at hl ⊢
  have hl : lv_has ls 2 [(0, .ref b0), (1, .int (nI k))] := hl
  refine lv_iload_n hx hb dL_cell_0 rfl (lv_at hl 1 rfl) ?_
  refine lv_aload_n hx hb dL_cell_1 rfl (lv_at hl 0 rfl) ?_
  refine va_slen hx hb hX hbl hbA hS dL_cell_2 ?_
  refine asi (z := nI L) rfl ?_
  refine lv_icmp_ge (tgt := 12) hx hb dL_cell_3 (by decide) (fun c_3 => ?_) (fun c_3 => ?_)
  · refine lv_sipush (v := nI 7919) hx hb dL_cell_12 (by decide) ?_
    refine lv_iload_n hx hb dL_cell_15 rfl (lv_at hl 1 rfl) ?_
    refine lv_iconst (v := nI 3) hx hb dL_cell_16 (by decide) ?_
    refine lv_iadd hx hb dL_cell_17 ?_
    refine lv_imul hx hb dL_cell_18 ?_
    refine lv_iload_n hx hb dL_cell_19 rfl (lv_at hl 1 rfl) ?_
    refine lv_bipush (v := nI 11) hx hb dL_cell_20 (by decide) ?_
    refine lv_iadd hx hb dL_cell_22 ?_
    refine lv_imul hx hb dL_cell_23 ?_
    exact W.iret (v := nI 7919 * (nI k + nI 3) * (nI k + nI 11)) hx hb hrt (fun t9 ht9 hW9 => ⟨_, rfl, trivial, ht9⟩) (fun _ h9 => nomatch h9) dL_cell_24 hlk
  · have n_3 := (not_congr (nI_leI (a := L) (b := k) hL hk)).mp c_3
    refine lv_aload_n hx hb dL_cell_6 rfl (lv_at hl 0 rfl) ?_
    refine lv_iload_n hx hb dL_cell_7 rfl (lv_at hl 1 rfl) ?_
    refine va_sld hx hb hX hbl hbA hS (vp_in_nI (by omega) (by omega)) dL_cell_8 ?_
    refine lv_goto (tgt := 24) hx hb dL_cell_9 (by decide) ?_
    exact W.iret (v := xs (nI k).toNatClampNeg) hx hb hrt (fun t9 ht9 hW9 => ⟨_, rfl, trivial, ht9⟩) (fun _ h9 => nomatch h9) dL_cell_24 hlk
/-- a cell of the script, read by the law -/
theorem clS {b0 L k : Nat} {xs : Nat → Int32} (hL : L < 2 ^ 31) (hk : k < 2 ^ 31) (S : CallFix p m c cc nL s args Ts own) (hT : GoodIn Ts (va_wsS own index yL_cell wsL_cell)) (hR : 0 + 1 ≤ R.frames ∧ 8 + (2 + 11) + 0 ≤ R.locals)
    (hX : va_X b0 L xs s s.heap) (hbl : b0 < s.heap.size) (hbA : ¬ A0 b0) (hS : va_S A0 s.heap H locs) (hl : ls.size = nL) (hroom : (rest.map fun v => v.category).sum ≤ 8) (hdg : decode cc pc = .ok (.invokestatic index, 3)) (hce : cells ≤ R.cells ∧ slots ≤ R.slots)
    (kk : ∀ r : Int32, W p l e R s m args below meth c H locs cells slots Q (F0 m (pc + 3) ls (.int r :: rest))) : W p l e R s m args below meth c H locs cells slots Q (F0 m pc ls (.int (nI k) :: .ref b0 :: rest)) :=
  vp_callSi (W.runS S (m_L_cell l b0 L xs hL k hk) (k_L_cell.S S.2.2.2.2 hT hR) ⟨cl_blind, fun U hU hW => ⟨rfl, by rw [hU]; exact Nat.lt_of_lt_of_le hbl hS.1, by rw [hU]; exact va_X.moved hW.alike (hX.kept (hS.2.1 b0 hbl hbA))⟩⟩ rfl rfl hl rfl (lv_room hroom) hdg hce) (fun r _ => kk r)
end LC
/-- the state and those saved: what stays true of each -/
def LZ (n sc : Nat) (σ : Nat → Nat) (ss : Nat → Nat → Nat) : Prop := GI n σ ∧ ∀ j, j < sc → GI n (ss j)
theorem LZ.up {n n' sc : Nat} {σ : Nat → Nat} {ss : Nat → Nat → Nat} (h : LZ n sc σ ss) (hn : n ≤ n') : LZ n' sc σ ss := ⟨h.1.up hn, fun j hj => (h.2 j hj).up hn⟩
theorem svC_5 {sc : Nat} (h : sc ≤ 5) : svC sc = sc + 1 := by unfold svC; omega
theorem svS_5 {sc : Nat} {σ : Nat → Nat} {ss : Nat → Nat → Nat} (h : sc ≤ 5) : svS sc ss σ sc = σ := by unfold svS; rw [if_neg (by omega), if_pos rfl]
theorem svS_j {sc j : Nat} {σ : Nat → Nat} {ss : Nat → Nat → Nat} (h : sc ≤ 5) (hj : j < sc) : svS sc ss σ j = ss j := by unfold svS; rw [if_neg (by omega), if_neg (by omega)]
theorem LZ.sv {n sc : Nat} {σ τ : Nat → Nat} {ss : Nat → Nat → Nat} (h : LZ n sc σ ss) (h5 : sc ≤ 5) (hτ : GI (n + 1) τ) : LZ (n + 1) (svC sc) τ (svS sc ss σ) := by
  refine ⟨hτ, fun j hj => ?_⟩
  rw [svC_5 h5] at hj
  by_cases e : j = sc
  · rw [e, svS_5 h5]; exact h.1.up (Nat.le_succ n)
  · rw [svS_j h5 (by omega)]; exact (h.2 j (by omega)).up (Nat.le_succ n)
theorem LZ.un {n sc : Nat} {σ : Nat → Nat} {ss : Nat → Nat → Nat} (h : LZ n sc σ ss) (h5 : sc ≤ 5) : LZ n sc σ (svS sc ss σ) := ⟨h.1, fun j hj => by rw [svS_j h5 hj]; exact h.2 j hj⟩
/-- between two turns -/
def SI (Γ : Gm) (s : State) (a : Nat → Nat) (b : Nat → Nat → Nat) (rf : Nat → Option Nat) (n : Nat) (H : Heap) (locs : List Loc) : Prop :=
  ∃ (f : Nat → Nat → Int32) (z : Nat → Int32) (F : Nat → Nat → Nat → Int32) (Z : Nat → Nat → Int32) (σ : Nat → Nat) (sc : Nat) (ss : Nat → Nat → Nat) (nb : Nat) (bb : Nat → Nat),
    XR σ sc ss nb bb f z F Z ∧ LZ n sc σ ss ∧ gP Γ (wXo Γ a b rf f z F Z) H ∧ va_D (fun q : Nat => s.heap.size ≤ q) (wXo Γ a b rf f z F Z) ∧ va_S (fun q : Nat => s.heap.size ≤ q) s.heap H locs
theorem ac_no {σ τ : Nat → Nat} {n : Nat} {r : Int32} (h : AQ σ n (false, r, τ)) : r = (-9 : Int32) ∧ τ = σ := h.2.2.1 rfl
theorem ac_yes {σ τ : Nat → Nat} {n : Nat} {r : Int32} (h : AQ σ n (true, r, τ)) : ¬ r ≤ (-9 : Int32) := h.2.1 rfl
