/-! Rows of mine more: new int arrays. -/
section BN
variable {p : Program} {l : Launch} {e : Env} {R : Room} {s : State} {m : MethodId} {args : Array Value} {below : List Frame} {meth : Method} {c : Code} {H H0 : Heap} {locs : List Loc} {cells slots : Nat} {Q : State → Prop}
variable {cc : ByteArray} {pc : Nat} {rest : List Value} {ls : Array Slot} {Γ : Gm} {ws : va_W} {A : Nat → Prop}
theorem newI {N : Nat} {x : Int32} (hx : p.tables.exec = Jvm.exec) (hb : c.code = cc) (harr : (Cond.arrayClass .int).before args s = true) (hK : gK Γ s) (hP : gP Γ ws H) (hD : va_D A ws) (hS : va_S A H0 H locs) (hA : ∀ q, H0.size ≤ q → A q)
    (hn : ¬ x < 0) (hN : x.toNatClampNeg = N) (hby : N ≤ 1000) (hcells : cells + 1 ≤ R.cells) (hslots : slots + N ≤ R.slots) (hdg : decode cc pc = .ok (.newarray .int, 2))
    (kk : ∀ (q : Nat) (H1 : Heap), gP Γ (ws ++ [(q, .inl (Γ.2.1, N, .inl (fun _ => 0)))]) H1 → va_D A (ws ++ [(q, .inl (Γ.2.1, N, .inl (fun _ => 0)))]) → va_S A H0 H1 locs → W p l e R s m args below meth c H1 locs (cells + 1) (slots + N) Q (F0 m (pc + 2) ls (.ref q :: rest))) :
    W p l e R s m args below meth c H locs cells slots Q (F0 m pc ls (.int x :: rest)) := by
  refine va_newa (atype := .int) (ty := .int) (a0 := (N, .inl (fun _ => 0))) hx hb harr rfl hK hP hD hS hA (fun cA => rfl) hn hN (by show N * 4 ≤ 536870912; omega) hcells hslots hdg (fun q cA H1 hK1 hP1 hD1 hS1 => ?_)
  have e : cA = Γ.2.1 := by
    have h1 := (hK1.2 2 (cA, .int) rfl).2
    have h2 := (hK.2 0 (Γ.2.1, .int) rfl).2
    exact Option.some.inj ((va_nm_int h1).symm.trans (va_nm_int h2))
  subst e
  exact kk q H1 hP1 hD1 hS1
end BN
/-- booleans -/
def bI (b : Bool) : Int32 := if b = true then nI 1 else nI 0
theorem bt {b : Bool} (h : b = true) : nI 1 = bI b := by rw [h]; rfl
theorem bf {b : Bool} (h : b = false) : nI 0 = bI b := by rw [h]; rfl
theorem bI_z {b : Bool} : bI b = 0 ↔ b = false := by cases b <;> decide
theorem bI_nz {b : Bool} : ¬ bI b = 0 ↔ b = true := by cases b <;> decide
theorem z1 : narrow .boolean (.int (nI 1)) = .int (nI 1) := rfl
theorem z0 : narrow .boolean (.int (nI 0)) = .int (nI 0) := rfl
theorem zb (b : Bool) : narrow .boolean (.int (bI b)) = .int (bI b) := by cases b <;> rfl
