/-! The ring of saved states as cells; rows for values. -/
section AV
variable {p : Program} {l : Launch} {e : Env} {R : Room} {s : State} {m : MethodId} {args : Array Value} {below : List Frame} {meth : Method} {c : Code} {H : Heap} {locs : List Loc} {cells slots : Nat} {Q : State → Prop} {pc : Nat} {ls : Array Slot} {rest : List Value}
theorem asv {x z : Value} (h : x = z) (k : W p l e R s m args below meth c H locs cells slots Q (F0 m pc ls (z :: rest))) : W p l e R s m args below meth c H locs cells slots Q (F0 m pc ls (x :: rest)) := h ▸ k
variable {Ts wy wy' : List Cond} {cc bytes : ByteArray} {nL maxL index n : Nat} {own C : String} {y : MethodName} {ret : Option FieldType} {rm : Room} {b : Nat} {As st : List Value} {Γ : Gm} {ws wc : va_W}
/-- a reader that answers a reference -/
theorem cRr {x : Nat} (hM : Met l y wy rm (va_Pc (.ref b :: As) (rd Γ wc)) (va_Sr (fun k => k = x) (fun k => .ref k)) 0 0 (fun _ => False)) (S : CallFix p m c cc nL s args Ts own) (k : Cal y wy rm bytes maxL ret n 0 0) (hT : GoodIn Ts (wsV own index C y wy)) (hC : y.cls = C) (hR : rm.frames + 1 ≤ R.frames ∧ 8 + (maxL + 11) + rm.locals ≤ R.locals)
    (hK : gK Γ s) (hP : gP Γ ws H) (is : List Nat) (hs : is.filterMap (fun i => ws[i]?) = wc) (q0 : Nat) {ci : Nat} {q : vw_C} {fs : List Value} (hc : vwCl[ci]? = some q) (he : wc[q0]? = some (b, .inr (ci, fs))) (hq : q.1 = C) (hn : As.length = n) (hl : ls.size = nL) (hroom : (rest.map fun v => v.category).sum ≤ 8)
    (hst : st = As.reverse ++ .ref b :: rest) (hdg : decode cc pc = .ok (.invokevirtual index, 3)) (hce : cells ≤ R.cells ∧ slots ≤ R.slots)
    (kk : W p l e R s m args below meth c H locs cells slots Q (F0 m (pc + 3) ls (.ref x :: rest))) : W p l e R s m args below meth c H locs cells slots Q (F0 m pc ls st) := by
  subst hst
  subst hq
  have hP2 := hP.sub is hs
  exact va_csr (W.runV S hM (k.V S.2.2.2.2 hT hC hR) ⟨rd_blind, va_recv hK hP2 hc he, fun U hU hW => ⟨rfl, by rw [hU]; exact hP2, va_K.moved hW.alike hK⟩⟩ rfl hn hl rfl (lv_room hroom) hdg hce) (fun k hk => by rw [hk]; exact kk)
end AV
abbrev wHd (Γ : Gm) (h r : Nat) (rf : Nat → Option Nat) (nx hd : Int32) : va_W := [(h, .inr (1, [.ref r, .int nx, .int hd])), (r, .inl (Γ.2.2.1, 6, .inr (.inr (.inr (.inr rf)))))]
def wSl (Γ : Gm) (b : Nat → Nat → Nat) (F : Nat → Nat → Nat → Int32) (Z : Nat → Nat → Int32) : Nat → va_W
  | 0 => []
  | n + 1 => wSl Γ b F Z n ++ wSt Γ (b n) (F n) (Z n)
/-- all but one -/
def wSx (Γ : Gm) (b : Nat → Nat → Nat) (F : Nat → Nat → Nat → Int32) (Z : Nat → Nat → Int32) (i : Nat) : Nat → va_W
  | 0 => []
  | n + 1 => if n = i then wSx Γ b F Z i n else wSx Γ b F Z i n ++ wSt Γ (b n) (F n) (Z n)
section WS
variable {Γ : Gm} {b : Nat → Nat → Nat} {F : Nat → Nat → Nat → Int32} {Z : Nat → Nat → Int32}
theorem wSx_eq {i : Nat} : ∀ {n : Nat}, n ≤ i → wSx Γ b F Z i n = wSl Γ b F Z n
  | 0, _ => rfl
  | n + 1, h => by
    show (if n = i then _ else _) = _
    rw [if_neg (by omega), wSx_eq (by omega)]; rfl
theorem wSl_perm {i : Nat} : ∀ {n : Nat}, i < n → (wSl Γ b F Z n).Perm (wSt Γ (b i) (F i) (Z i) ++ wSx Γ b F Z i n)
  | 0, h => absurd h (Nat.not_lt_zero i)
  | n + 1, h => by
    by_cases e : n = i
    · subst e
      have e1 : wSx Γ b F Z n (n + 1) = wSl Γ b F Z n := by
        show (if n = n then _ else _) = _
        rw [if_pos rfl, wSx_eq (Nat.le_refl n)]
      rw [e1]
      exact List.perm_append_comm
    · have e1 : wSx Γ b F Z i (n + 1) = wSx Γ b F Z i n ++ wSt Γ (b n) (F n) (Z n) := if_neg e
      rw [e1, ← List.append_assoc]
      exact (wSl_perm (by omega)).append_right _
theorem wSx_up {i : Nat} (f' : Nat → Nat → Int32) (z' : Nat → Int32) : ∀ {n : Nat}, wSx Γ b (va_up F i f') (va_up Z i z') i n = wSx Γ b F Z i n
  | 0 => rfl
  | n + 1 => by
    show (if n = i then _ else _) = (if n = i then _ else _)
    by_cases e : n = i
    · rw [if_pos e, if_pos e, wSx_up f' z']
    · rw [if_neg e, if_neg e, wSx_up f' z']
      have h1 : va_up F i f' n = F n := if_neg e
      have h2 : va_up Z i z' n = Z n := if_neg e
      rw [h1, h2]
theorem wSl_up {i n : Nat} (f' : Nat → Nat → Int32) (z' : Nat → Int32) (h : i < n) : (wSl Γ b (va_up F i f') (va_up Z i z') n).Perm (wSt Γ (b i) f' z' ++ wSx Γ b F Z i n) := by
  have h1 := wSl_perm (Γ := Γ) (b := b) (F := va_up F i f') (Z := va_up Z i z') h
  rw [wSx_up] at h1
  have e1 : va_up F i f' i = f' := if_pos rfl
  have e2 : va_up Z i z' i = z' := if_pos rfl
  rw [e1, e2] at h1
  exact h1
theorem sv_perm {h w : va_W} {i : Nat} (hi : i < 6) : (h ++ (w ++ wSl Γ b F Z 6)).Perm ((wSt Γ (b i) (F i) (Z i) ++ w) ++ (h ++ wSx Γ b F Z i 6)) := by
  have h1 := wSl_perm (Γ := Γ) (b := b) (F := F) (Z := Z) hi
  have h2 : (w ++ wSl Γ b F Z 6).Perm ((wSt Γ (b i) (F i) (Z i) ++ w) ++ wSx Γ b F Z i 6) := (h1.append_left w).trans (by rw [← List.append_assoc]; exact List.perm_append_comm.append_right _)
  refine (h2.append_left h).trans ?_
  rw [← List.append_assoc h, ← List.append_assoc _ h]
  exact List.perm_append_comm.append_right _
theorem sv_back {h w : va_W} {i : Nat} (f' : Nat → Nat → Int32) (z' : Nat → Int32) (hi : i < 6) : ((wSt Γ (b i) f' z' ++ w) ++ (h ++ wSx Γ b F Z i 6)).Perm (h ++ (w ++ wSl Γ b (va_up F i f') (va_up Z i z') 6)) := by
  have h1 := sv_perm (h := h) (w := w) (Γ := Γ) (b := b) (F := va_up F i f') (Z := va_up Z i z') hi
  rw [wSx_up] at h1
  have e1 : va_up F i f' i = f' := if_pos rfl
  have e2 : va_up Z i z' i = z' := if_pos rfl
  rw [e1, e2] at h1
  exact h1.symm
theorem rs_perm {h w : va_W} {i : Nat} (hi : i < 6) : (h ++ (w ++ wSl Γ b F Z 6)).Perm ((w ++ wSt Γ (b i) (F i) (Z i)) ++ (h ++ wSx Γ b F Z i 6)) :=
  (sv_perm hi).trans (List.perm_append_comm.append_right _)
end WS
def nxtR (nx : Nat) : Nat := if nx + 1 < 6 then nx + 1 else 0
def latR (nx : Nat) : Nat := if 0 < nx then nx - 1 else 5
theorem nxtR_lt {nx : Nat} (h : nx < 6) : nxtR nx < 6 := by unfold nxtR; split <;> omega
theorem latR_lt {nx : Nat} (h : nx < 6) : latR nx < 6 := by unfold latR; split <;> omega
theorem min_n {a b : Nat} (ha : a < 2 ^ 31) (hb : b < 2 ^ 31) : (if nI b < nI a then nI b else nI a) = nI (min a b) := by
  by_cases h : b < a
  · rw [if_pos ((nI_ltI hb ha).mpr h), Nat.min_eq_right (by omega)]
  · rw [if_neg (fun q => h ((nI_ltI hb ha).mp q)), Nat.min_eq_left (by omega)]
