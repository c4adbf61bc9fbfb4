/-! What the calls do: worlds with a tail; the whole object's relation; states as numbers after a call. -/
section TW
variable {Γ : Gm} {A A0 : Nat → Prop} {ws ws' wt wc wr : va_W} {H : Heap}
theorem gP_subl (h : gP Γ (ws ++ wt) H) (is : List Nat) (hs : is.map (fun i => ws[i]?) = ws'.map some) : gP Γ (ws' ++ wt) H := by
  have h1 : (is.map (fun i => ws[i]?)).filterMap id = (ws'.map some).filterMap id := by rw [hs]
  exact gP_a ((gP_l h).sub is (by simpa [List.filterMap_map] using h1)) (gP_r h)
theorem sub_m (is : List Nat) (hs : is.map (fun i => ws[i]?) = ws'.map some) {q : Nat × va_E} (hq : q ∈ ws') : q ∈ ws := by
  have h1 : some q ∈ ws'.map some := List.mem_map_of_mem hq
  rw [← hs] at h1
  obtain ⟨i, -, hi⟩ := List.mem_map.mp h1
  exact List.mem_of_getElem? hi
theorem gD_subl (h : va_D A (ws ++ wt)) (is : List Nat) (hn : va_nd is = true) (hs : is.map (fun i => ws[i]?) = ws'.map some) : va_D A (ws' ++ wt) :=
  gD_a ((gD_l h).sub is hn hs) (gD_r h) (fun _ hp _ hq => gD_x h (sub_m is hs hp) hq)
theorem sx_perm {α : Type} (o : α) (st hd bf tl : List α) : (o :: (st ++ (hd ++ (bf ++ tl)))).Perm ((hd ++ (st ++ tl)) ++ (o :: bf)) := by
  have h1 : (st ++ (hd ++ (bf ++ tl))).Perm ((hd ++ (st ++ tl)) ++ bf) := by
    refine (swp st hd (bf ++ tl)).trans ?_
    rw [List.append_assoc hd]
    refine List.Perm.append_left hd ?_
    rw [List.append_assoc st]
    exact List.Perm.append_left st List.perm_append_comm
  exact (List.Perm.cons o h1).trans List.perm_middle.symm
end TW
section TC
variable {p : Program} {l : Launch} {e : Env} {R : Room} {s : State} {m : MethodId} {args : Array Value} {below : List Frame} {meth : Method} {c : Code} {H : Heap} {locs : List Loc} {cells slots : Nat} {Q : State → Prop}
variable {Ts wy wy' : List Cond} {cc bytes : ByteArray} {nL maxL index n pc : Nat} {own C : String} {y : MethodName} {ret : Option FieldType} {rm : Room} {b : Nat} {As rest st : List Value} {ls : Array Slot} {Γ : Gm} {ws wc wr wt : va_W}
variable {S0 : Type} {mc ms : Nat} {A0 : Nat → Prop} {H0 : Heap}
theorem tl_perm (isC isR : List Nat) (hs : isC.map (fun i => ws[i]?) = wc.map some) (hr : isR.map (fun i => ws[i]?) = wr.map some) (hnA : va_nd (isC ++ isR) = true) (hP : gP Γ (ws ++ wt) H) (hD : va_D A0 (ws ++ wt)) : gP Γ (wc ++ (wr ++ wt)) H ∧ va_D A0 (wc ++ (wr ++ wt)) := by
  have h1 : (isC ++ isR).map (fun i => ws[i]?) = (wc ++ wr).map some := by rw [List.map_append, List.map_append, hs, hr]
  rw [← List.append_assoc]
  exact ⟨gP_subl hP _ h1, gD_subl hD _ hnA h1⟩
/-- a writer called on cells of a world with a tail -/
theorem tWi {post : Int32 → S0 → Prop} {w1 : S0 → va_W} (hM : Met l y wy rm (va_Pc (.ref b :: As) (ws0 Γ H.size wc)) (va_Qi post (fun u t => wd Γ (va_A wc H.size) (w1 u) t) (va_A wc H.size)) mc ms (va_A wc H.size))
    (S : CallFix p m c cc nL s args Ts own) (k : Cal y wy rm bytes maxL ret n mc ms) (hT : GoodIn Ts (wsV own index C y wy)) (hC : y.cls = C) (hR : rm.frames + 1 ≤ R.frames ∧ 8 + (maxL + 11) + rm.locals ≤ R.locals)
    (hK : gK Γ s) (hP : gP Γ (ws ++ wt) H) (hD : va_D A0 (ws ++ wt)) (hS : va_S A0 H0 H locs) (hA : ∀ q, H0.size ≤ q → A0 q) (isC isR : List Nat) (hs : isC.map (fun i => ws[i]?) = wc.map some) (hr : isR.map (fun i => ws[i]?) = wr.map some) (hnA : va_nd (isC ++ isR) = true)
    (q0 : Nat) {ci : Nat} {q : vw_C} {fs : List Value} (hc : vwCl[ci]? = some q) (he : wc[q0]? = some (b, .inr (ci, fs))) (hq : q.1 = C) (hn : As.length = n) (hl : ls.size = nL) (hroom : (rest.map fun v => v.category).sum ≤ 8)
    (hst : st = As.reverse ++ .ref b :: rest) (hdg : decode cc pc = .ok (.invokevirtual index, 3)) (hce : cells + mc ≤ R.cells ∧ slots + ms ≤ R.slots)
    (kk : ∀ (r : Int32) (u : S0) (H1 : Heap) (locs1 : List Loc), post r u → gP Γ (w1 u ++ (wr ++ wt)) H1 → va_D A0 (w1 u ++ (wr ++ wt)) → va_S A0 H0 H1 locs1 → W p l e R s m args below meth c H1 locs1 (cells + mc) (slots + ms) Q (F0 m (pc + 3) ls (.int r :: rest))) : W p l e R s m args below meth c H locs cells slots Q (F0 m pc ls st) := by
  obtain ⟨hP, hD⟩ := tl_perm isC isR hs hr hnA hP hD
  exact aWi hM S k hT hC hR hK hP hD hS hA q0 hc he hq hn hl hroom hst hdg hce kk
theorem tWv {post : S0 → Prop} {w1 : S0 → va_W} (hM : Met l y wy rm (va_Pc (.ref b :: As) (ws0 Γ H.size wc)) (va_Qv post (fun u t => wd Γ (va_A wc H.size) (w1 u) t) (va_A wc H.size)) mc ms (va_A wc H.size))
    (S : CallFix p m c cc nL s args Ts own) (k : Cal y wy rm bytes maxL ret n mc ms) (hT : GoodIn Ts (wsV own index C y wy)) (hC : y.cls = C) (hR : rm.frames + 1 ≤ R.frames ∧ 8 + (maxL + 11) + rm.locals ≤ R.locals)
    (hK : gK Γ s) (hP : gP Γ (ws ++ wt) H) (hD : va_D A0 (ws ++ wt)) (hS : va_S A0 H0 H locs) (hA : ∀ q, H0.size ≤ q → A0 q) (isC isR : List Nat) (hs : isC.map (fun i => ws[i]?) = wc.map some) (hr : isR.map (fun i => ws[i]?) = wr.map some) (hnA : va_nd (isC ++ isR) = true)
    (q0 : Nat) {ci : Nat} {q : vw_C} {fs : List Value} (hc : vwCl[ci]? = some q) (he : wc[q0]? = some (b, .inr (ci, fs))) (hq : q.1 = C) (hn : As.length = n) (hl : ls.size = nL) (hroom : (rest.map fun v => v.category).sum ≤ 8)
    (hst : st = As.reverse ++ .ref b :: rest) (hdg : decode cc pc = .ok (.invokevirtual index, 3)) (hce : cells + mc ≤ R.cells ∧ slots + ms ≤ R.slots)
    (kk : ∀ (u : S0) (H1 : Heap) (locs1 : List Loc), post u → gP Γ (w1 u ++ (wr ++ wt)) H1 → va_D A0 (w1 u ++ (wr ++ wt)) → va_S A0 H0 H1 locs1 → W p l e R s m args below meth c H1 locs1 (cells + mc) (slots + ms) Q (F0 m (pc + 3) ls rest)) : W p l e R s m args below meth c H locs cells slots Q (F0 m pc ls st) := by
  obtain ⟨hP, hD⟩ := tl_perm isC isR hs hr hnA hP hD
  exact aWv hM S k hT hC hR hK hP hD hS hA q0 hc he hq hn hl hroom hst hdg hce kk
end TC
/-! The saved states, oldest first: the j-th of c lies in the ring's place (nx + 6 - c + j) % 6. -/
def HR (nx c : Nat) (S : Nat → Nat → Nat) (F : Nat → Nat → Nat → Int32) (Z : Nat → Nat → Int32) : Prop := ∀ j, j < c → Rep (S j) (F ((nx + 6 - c + j) % 6)) (Z ((nx + 6 - c + j) % 6)) ∧ Inv (S j)
def svC (c : Nat) : Nat := min (c + 1) 6
def svS (c : Nat) (S : Nat → Nat → Nat) (σ : Nat → Nat) : Nat → Nat → Nat := fun j => if c = 6 then (if j = 5 then σ else S (j + 1)) else (if j = c then σ else S j)
theorem HR.save {nx c : Nat} {S : Nat → Nat → Nat} {F : Nat → Nat → Nat → Int32} {Z : Nat → Nat → Int32} {σ : Nat → Nat} {f : Nat → Nat → Int32} {z : Nat → Int32} (hnx : nx < 6) (hc : c ≤ 6) (h : HR nx c S F Z) (hR : Rep σ f z) (hI : Inv σ) :
    HR (nxtR nx) (svC c) (svS c S σ) (va_up F nx (cpS (F nx) f)) (va_up Z nx z) := by
  intro j hj
  unfold svC at hj ⊢
  have key : ∀ k, k < 6 → nxtR k = (k + 1) % 6 := by decide
  have hput : Rep σ (va_up F nx (cpS (F nx) f) nx) (va_up Z nx z nx) := by
    have e1 : va_up F nx (cpS (F nx) f) nx = cpS (F nx) f := if_pos rfl
    have e2 : va_up Z nx z nx = z := if_pos rfl
    rw [e1, e2]
    exact hR.cp hI
  have hkeep : ∀ i, ¬ i = nx → va_up F nx (cpS (F nx) f) i = F i ∧ va_up Z nx z i = Z i := fun i hi => ⟨if_neg hi, if_neg hi⟩
  rw [key nx hnx]
  by_cases e6 : c = 6
  · subst e6
    by_cases e5 : j = 5
    · subst e5
      rw [show ((nx + 1) % 6 + 6 - min (6 + 1) 6 + 5) % 6 = nx by omega]
      exact ⟨hput, hI⟩
    · have es : svS 6 S σ j = S (j + 1) := by unfold svS; rw [if_pos rfl, if_neg e5]
      rw [es, show ((nx + 1) % 6 + 6 - min (6 + 1) 6 + j) % 6 = (nx + 6 - 6 + (j + 1)) % 6 by omega, (hkeep _ (by omega)).1, (hkeep _ (by omega)).2]
      exact h (j + 1) (by omega)
  · by_cases ec : j = c
    · subst ec
      have es : svS j S σ j = σ := by unfold svS; rw [if_neg e6, if_pos rfl]
      rw [es, show ((nx + 1) % 6 + 6 - min (j + 1) 6 + j) % 6 = nx by omega]
      exact ⟨hput, hI⟩
    · have es : svS c S σ j = S j := by unfold svS; rw [if_neg e6, if_neg ec]
      rw [es, show ((nx + 1) % 6 + 6 - min (c + 1) 6 + j) % 6 = (nx + 6 - c + j) % 6 by omega, (hkeep _ (by omega)).1, (hkeep _ (by omega)).2]
      exact h j (by omega)
/-- the buffer -/
def BR (n : Nat) (B : Nat → Nat) (g : Nat → Int32) : Prop := n ≤ 60 ∧ ∀ i, i < n → g i = nI (B i) ∧ 33 ≤ B i ∧ B i < 127
/-- the whole object: its state, the saved ones, the buffer -/
def XR (σ : Nat → Nat) (c : Nat) (S : Nat → Nat → Nat) (n : Nat) (B : Nat → Nat) (f : Nat → Nat → Int32) (z : Nat → Int32) (F : Nat → Nat → Nat → Int32) (Z : Nat → Nat → Int32) : Prop :=
  Rep σ f z ∧ Inv σ ∧ c ≤ 6 ∧ z 4 = nI c ∧ z 5 = nI n ∧ BR n B (f 12) ∧ ∃ nx, nx < 6 ∧ z 3 = nI nx ∧ HR nx c S F Z
/-- numbers with one put -/
def nup (σ : Nat → Nat) (i v : Nat) : Nat → Nat := fun j => if j = i then v else σ j
section NU
variable {σ : Nat → Nat} {i v : Nat}
theorem nup_ap (j : Nat) : nup σ i v j = if j = i then v else σ j := rfl
theorem oR_nup (r w : Nat) : oR (nup σ i v) r w = if 6 + 4 * r + w = i then v else oR σ r w := rfl
theorem oP_nup (p w : Nat) : oP (nup σ i v) p w = if 70 + 5 * p + w = i then v else oP σ p w := rfl
theorem oK_nup (p : Nat) : oK (nup σ i v) p = if 95 + 7 * p = i then v else oK σ p := rfl
theorem oM_nup (p k : Nat) : oM (nup σ i v) p k = if 96 + 7 * p + k = i then v else oM σ p k := rfl
end NU
/-! States after a call: still well, still held by the class's cells. -/
theorem up_t {g : Nat → Int32} {j : Nat} {v : Int32} : upd g j v j = v := if_pos rfl
theorem up_f {g : Nat → Int32} {j k : Nat} {v : Int32} (h : ¬ k = j) : upd g j v k = g k := if_neg h
section ST
variable {σ τ : Nat → Nat} {f : Nat → Nat → Int32} {z : Nat → Int32}
theorem nup_e {i v j : Nat} (h : ¬ j = i) : nup σ i v j = σ j := if_neg h
theorem nup_v {i v : Nat} : nup σ i v i = v := if_pos rfl
theorem rowsI (h : ∀ j, 6 ≤ j → j < 70 → τ j = σ j) (h0 : τ 0 = σ 0) (hI : Inv σ) : ∀ r, r < τ 0 → oR τ r 0 < 5 ∧ oR τ r 1 < 4 ∧ oR τ r 2 < 100 ∧ oR τ r 3 < 4 := by
  intro r hr
  have hn := hI.n
  have q : ∀ w, w < 4 → oR τ r w = oR σ r w := fun w hw => h _ (by omega) (by omega)
  rw [q 0 (by omega), q 1 (by omega), q 2 (by omega), q 3 (by omega)]
  exact hI.row (by omega)
theorem rowsR (h : ∀ j, 6 ≤ j → j < 70 → τ j = σ j) (h0 : τ 0 = σ 0) (hI : Inv σ) (hR : Rep σ f z) : ∀ r, r < τ 0 → f 0 r = nI (oR τ r 0) ∧ f 1 r = nI (oR τ r 1) ∧ f 2 r = nI (oR τ r 2) ∧ f 3 r = nI (oR τ r 3) := by
  intro r hr
  have hn := hI.n
  have q : ∀ w, w < 4 → oR τ r w = oR σ r w := fun w hw => h _ (by omega) (by omega)
  rw [q 0 (by omega), q 1 (by omega), q 2 (by omega), q 3 (by omega)]
  have hr2 : r < σ 0 := by omega
  exact ⟨hR.own hr2, hR.pla hr2, hR.val hr2, hR.sec hr2⟩
theorem persI (h : ∀ j, 70 ≤ j → j < 95 → τ j = σ j) (hI : Inv σ) : ∀ p, p < 5 → oP τ p 0 < 4 ∧ oP τ p 1 < 4 ∧ oP τ p 2 ≤ 5 := by
  intro p hp
  have q : ∀ w, w < 5 → oP τ p w = oP σ p w := fun w hw => h _ (by omega) (by omega)
  rw [q 0 (by omega), q 1 (by omega), q 2 (by omega)]
  exact hI.person hp
theorem persR (h : ∀ j, 70 ≤ j → j < 95 → τ j = σ j) (hR : Rep σ f z) : ∀ p, p < 5 → f 4 p = nI (oP τ p 0) ∧ f 5 p = nI (oP τ p 1) ∧ f 6 p = mI (oP τ p 2) ∧ f 9 p = nI (oP τ p 3) ∧ f 10 p = nI (oP τ p 4) := by
  intro p hp
  have q : ∀ w, w < 5 → oP τ p w = oP σ p w := fun w hw => h _ (by omega) (by omega)
  rw [q 0 (by omega), q 1 (by omega), q 2 (by omega), q 3 (by omega), q 4 (by omega)]
  exact ⟨hR.rank hp, hR.home hp, hR.master hp, hR.asked hp, hR.refused hp⟩
theorem keepI (h : ∀ j, 95 ≤ j → j < 130 → τ j = σ j) (hI : Inv σ) : ∀ p, p < 5 → oK τ p ≤ 6 ∧ ∀ k, k < oK τ p → oM τ p k < 65536 := by
  intro p hp
  have h6 := hI.kept hp
  have e1 : oK τ p = oK σ p := h _ (by omega) (by omega)
  rw [e1]
  refine ⟨h6, fun k hk => ?_⟩
  have e2 : oM τ p k = oM σ p k := h _ (by omega) (by omega)
  rw [e2]; exact hI.mask hp hk
theorem keepR (h : ∀ j, 95 ≤ j → j < 130 → τ j = σ j) (hI : Inv σ) (hR : Rep σ f z) : ∀ p, p < 5 → f 8 p = nI (oK τ p) ∧ ∀ k, k < oK τ p → f 7 (p * 6 + k) = nI (oM τ p k) := by
  intro p hp
  have h6 := hI.kept hp
  have e1 : oK τ p = oK σ p := h _ (by omega) (by omega)
  rw [e1]
  refine ⟨hR.kept hp, fun k hk => ?_⟩
  have e2 : oM τ p k = oM σ p k := h _ (by omega) (by omega)
  rw [e2]; exact hR.mask hp hk
theorem setsR (h : ∀ j, 2 ≤ j → j < 5 → τ j = σ j) (hR : Rep σ f z) : ∀ i, i < 3 → f 11 i = nI (τ (2 + i)) := fun i hi => by
  rw [h _ (by omega) (by omega)]; exact hR.set hi
-- a row changed
def chgS (σ : Nat → Nat) (q v : Nat) : Nat → Nat := nup σ (6 + 4 * q + 2) v
theorem chg_I (hI : Inv σ) {q v : Nat} (hq : q < σ 0) (hv : v < 100) : Inv (chgS σ q v) := by
  have hn := hI.n
  have e : ∀ j, ¬ j = 6 + 4 * q + 2 → chgS σ q v j = σ j := fun j hj => nup_e hj
  have ev : chgS σ q v (6 + 4 * q + 2) = v := nup_v
  refine ⟨by rw [e 0 (by omega)]; exact hI.n, by rw [e 1 (by omega)]; exact hI.rules, by rw [e 2 (by omega)]; exact hI.least, by rw [e 3 (by omega)]; exact hI.coarse, by rw [e 4 (by omega)]; exact hI.diff, fun r hr => ?_, persI (fun j _ _ => e j (by omega)) hI, keepI (fun j _ _ => e j (by omega)) hI⟩
  rw [e 0 (by omega)] at hr
  have h := hI.row hr
  refine ⟨?_, ?_, ?_, ?_⟩
  · rw [show oR (chgS σ q v) r 0 = oR σ r 0 from e _ (by omega)]; exact h.1
  · rw [show oR (chgS σ q v) r 1 = oR σ r 1 from e _ (by omega)]; exact h.2.1
  · by_cases c : r = q
    · rw [c, show oR (chgS σ q v) q 2 = v from ev]; exact hv
    · rw [show oR (chgS σ q v) r 2 = oR σ r 2 from e _ (by omega)]; exact h.2.2.1
  · rw [show oR (chgS σ q v) r 3 = oR σ r 3 from e _ (by omega)]; exact h.2.2.2
theorem chg_R (hR : Rep σ f z) (hI : Inv σ) {q v : Nat} (hq : q < σ 0) : Rep (chgS σ q v) (va_up f 2 (upd (f 2) q (nI v))) z := by
  have hn := hI.n
  have e : ∀ j, ¬ j = 6 + 4 * q + 2 → chgS σ q v j = σ j := fun j hj => nup_e hj
  have ev : chgS σ q v (6 + 4 * q + 2) = v := nup_v
  refine ⟨by rw [e 0 (by omega)]; exact hR.n, by rw [e 1 (by omega)]; exact hR.rules, by rw [e 5 (by omega)]; exact hR.given, fun r hr => ?_, fun p hp => persR (fun j _ _ => e j (by omega)) hR p hp, fun p hp => keepR (fun j _ _ => e j (by omega)) hI hR p hp, fun i hi => setsR (fun j _ _ => e j (by omega)) hR i hi⟩
  rw [e 0 (by omega)] at hr
  refine ⟨?_, ?_, ?_, ?_⟩
  · rw [show oR (chgS σ q v) r 0 = oR σ r 0 from e _ (by omega)]; exact hR.own hr
  · rw [show oR (chgS σ q v) r 1 = oR σ r 1 from e _ (by omega)]; exact hR.pla hr
  · show upd (f 2) q (nI v) r = _
    by_cases c : r = q
    · rw [c, up_t, show oR (chgS σ q v) q 2 = v from ev]
    · rw [up_f c, show oR (chgS σ q v) r 2 = oR σ r 2 from e _ (by omega)]; exact hR.val hr
  · rw [show oR (chgS σ q v) r 3 = oR σ r 3 from e _ (by omega)]; exact hR.sec hr
-- a row added
def rowS (σ : Nat → Nat) (o p v w : Nat) : Nat → Nat := nup (nup (nup (nup (nup σ (6 + 4 * σ 0) o) (6 + 4 * σ 0 + 1) p) (6 + 4 * σ 0 + 2) v) (6 + 4 * σ 0 + 3) w) 0 (σ 0 + 1)
section RW
variable {o p v w : Nat}
theorem rowS_e {j : Nat} (h0 : ¬ j = 0) (hj : ¬ (6 + 4 * σ 0 ≤ j ∧ j < 10 + 4 * σ 0)) : rowS σ o p v w j = σ j := by
  unfold rowS; rw [nup_e h0, nup_e (by omega), nup_e (by omega), nup_e (by omega), nup_e (by omega)]
theorem rowS_0 : oR (rowS σ o p v w) (σ 0) 0 = o := by
  show rowS σ o p v w (6 + 4 * σ 0) = o
  unfold rowS; rw [nup_e (by omega), nup_e (by omega), nup_e (by omega), nup_e (by omega), nup_v]
theorem rowS_1 : oR (rowS σ o p v w) (σ 0) 1 = p := by
  show rowS σ o p v w (6 + 4 * σ 0 + 1) = p
  unfold rowS; rw [nup_e (by omega), nup_e (by omega), nup_e (by omega), nup_v]
theorem rowS_2 : oR (rowS σ o p v w) (σ 0) 2 = v := by
  show rowS σ o p v w (6 + 4 * σ 0 + 2) = v
  unfold rowS; rw [nup_e (by omega), nup_e (by omega), nup_v]
theorem rowS_3 : oR (rowS σ o p v w) (σ 0) 3 = w := by
  show rowS σ o p v w (6 + 4 * σ 0 + 3) = w
  unfold rowS; rw [nup_e (by omega), nup_v]
theorem rowS_r {r x : Nat} (h : r < σ 0) (hx : x < 4) : oR (rowS σ o p v w) r x = oR σ r x := rowS_e (by omega) (by omega)
theorem row_I (hI : Inv σ) (hn : σ 0 < 16) (ho : o < 5) (hp : p < 4) (hv : v < 100) (hw : w < 4) : Inv (rowS σ o p v w) := by
  have e0 : rowS σ o p v w 0 = σ 0 + 1 := rfl
  refine ⟨by rw [e0]; omega, by rw [rowS_e (by omega) (by omega)]; exact hI.rules, by rw [rowS_e (by omega) (by omega)]; exact hI.least, by rw [rowS_e (by omega) (by omega)]; exact hI.coarse, by rw [rowS_e (by omega) (by omega)]; exact hI.diff, fun r hr => ?_, persI (fun j _ _ => rowS_e (by omega) (by omega)) hI, keepI (fun j _ _ => rowS_e (by omega) (by omega)) hI⟩
  rw [e0] at hr
  by_cases c : r = σ 0
  · rw [c, rowS_0, rowS_1, rowS_2, rowS_3]; exact ⟨ho, hp, hv, hw⟩
  · rw [rowS_r (by omega) (by omega), rowS_r (by omega) (by omega), rowS_r (by omega) (by omega), rowS_r (by omega) (by omega)]
    exact hI.row (by omega)
def rowF (f : Nat → Nat → Int32) (n o p v w : Nat) : Nat → Nat → Int32 := va_up (va_up (va_up (va_up f 0 (upd (f 0) n (nI o))) 1 (upd (f 1) n (nI p))) 2 (upd (f 2) n (nI v))) 3 (upd (f 3) n (nI w))
theorem row_R (hR : Rep σ f z) (hI : Inv σ) (hn : σ 0 < 16) : Rep (rowS σ o p v w) (rowF f (σ 0) o p v w) (va_up z 0 (nI (σ 0 + 1))) := by
  have e0 : rowS σ o p v w 0 = σ 0 + 1 := rfl
  have hR2 : Rep σ (rowF f (σ 0) o p v w) z := by
    refine ⟨hR.n, hR.rules, hR.given, fun r hr => ?_, fun p hp => ⟨hR.rank hp, hR.home hp, hR.master hp, hR.asked hp, hR.refused hp⟩, fun p hp => ⟨hR.kept hp, fun k hk => hR.mask hp hk⟩, fun i hi => hR.set hi⟩
    show upd (f 0) (σ 0) (nI o) r = _ ∧ upd (f 1) (σ 0) (nI p) r = _ ∧ upd (f 2) (σ 0) (nI v) r = _ ∧ upd (f 3) (σ 0) (nI w) r = _
    rw [up_f (by omega), up_f (by omega), up_f (by omega), up_f (by omega)]
    exact ⟨hR.own hr, hR.pla hr, hR.val hr, hR.sec hr⟩
  refine ⟨rfl, by rw [rowS_e (by omega) (by omega)]; exact hR.rules, by rw [rowS_e (by omega) (by omega)]; exact hR.given, fun r hr => ?_, persR (fun j _ _ => rowS_e (by omega) (by omega)) hR2, keepR (fun j _ _ => rowS_e (by omega) (by omega)) hI hR2, setsR (fun j _ _ => rowS_e (by omega) (by omega)) hR2⟩
  rw [e0] at hr
  by_cases c : r = σ 0
  · rw [c, rowS_0, rowS_1, rowS_2, rowS_3]; exact ⟨up_t, up_t, up_t, up_t⟩
  · rw [rowS_r (by omega) (by omega), rowS_r (by omega) (by omega), rowS_r (by omega) (by omega), rowS_r (by omega) (by omega)]
    exact hR2.2.2.2.1 r (by omega)
end RW
-- a person
def perS (σ : Nat → Nat) (p k h : Nat) : Nat → Nat := nup (nup σ (70 + 5 * p) k) (70 + 5 * p + 1) h
theorem per_x {p k h j : Nat} (hj : ¬ (j = 70 + 5 * p ∨ j = 70 + 5 * p + 1)) : perS σ p k h j = σ j := by unfold perS; rw [nup_e (by omega), nup_e (by omega)]
theorem per_0 {p k h : Nat} : oP (perS σ p k h) p 0 = k := by
  show perS σ p k h (70 + 5 * p) = k
  unfold perS; rw [nup_e (by omega), nup_v]
theorem per_1 {p k h : Nat} : oP (perS σ p k h) p 1 = h := by
  show perS σ p k h (70 + 5 * p + 1) = h
  unfold perS; rw [nup_v]
theorem per_I (hI : Inv σ) {p k h : Nat} (hp : p < 5) (hk : k < 4) (hh : h < 4) : Inv (perS σ p k h) := by
  refine ⟨by rw [per_x (by omega)]; exact hI.n, by rw [per_x (by omega)]; exact hI.rules, by rw [per_x (by omega)]; exact hI.least, by rw [per_x (by omega)]; exact hI.coarse, by rw [per_x (by omega)]; exact hI.diff, rowsI (fun j _ _ => per_x (by omega)) (per_x (by omega)) hI, fun q hq => ?_, keepI (fun j _ _ => per_x (by omega)) hI⟩
  have h2 := hI.person hq
  rw [show oP (perS σ p k h) q 2 = oP σ q 2 from per_x (by omega)]
  by_cases c : q = p
  · rw [c, per_0, per_1]; rw [c] at h2; exact ⟨hk, hh, h2.2.2⟩
  · rw [show oP (perS σ p k h) q 0 = oP σ q 0 from per_x (by omega), show oP (perS σ p k h) q 1 = oP σ q 1 from per_x (by omega)]; exact h2
theorem per_R (hR : Rep σ f z) (hI : Inv σ) {p k h : Nat} (hp : p < 5) : Rep (perS σ p k h) (va_up (va_up f 5 (upd (f 5) p (nI h))) 4 (upd (f 4) p (nI k))) z := by
  refine ⟨by rw [per_x (by omega)]; exact hR.n, by rw [per_x (by omega)]; exact hR.rules, by rw [per_x (by omega)]; exact hR.given, fun r hr => rowsR (fun j _ _ => per_x (by omega)) (per_x (by omega)) hI hR r hr, fun q hq => ?_, fun q hq => keepR (fun j _ _ => per_x (by omega)) hI hR q hq, fun i hi => setsR (fun j _ _ => per_x (by omega)) hR i hi⟩
  show upd (f 4) p (nI k) q = _ ∧ upd (f 5) p (nI h) q = _ ∧ _
  rw [show oP (perS σ p k h) q 2 = oP σ q 2 from per_x (by omega), show oP (perS σ p k h) q 3 = oP σ q 3 from per_x (by omega), show oP (perS σ p k h) q 4 = oP σ q 4 from per_x (by omega)]
  by_cases c : q = p
  · rw [c, per_0, per_1, up_t, up_t]; exact ⟨rfl, rfl, hR.master hp, hR.asked hp, hR.refused hp⟩
  · rw [show oP (perS σ p k h) q 0 = oP σ q 0 from per_x (by omega), show oP (perS σ p k h) q 1 = oP σ q 1 from per_x (by omega), up_f c, up_f c]; exact ⟨hR.rank hq, hR.home hq, hR.master hq, hR.asked hq, hR.refused hq⟩
-- a master
def masS (σ : Nat → Nat) (p k : Nat) : Nat → Nat := nup σ (70 + 5 * p + 2) k
theorem mas_2 {p k : Nat} : oP (masS σ p k) p 2 = k := nup_v
theorem mas_I (hI : Inv σ) {p k : Nat} (hp : p < 5) (hk : k ≤ 5) : Inv (masS σ p k) := by
  have e : ∀ j, ¬ j = 70 + 5 * p + 2 → masS σ p k j = σ j := fun j hj => nup_e hj
  refine ⟨by rw [e _ (by omega)]; exact hI.n, by rw [e _ (by omega)]; exact hI.rules, by rw [e _ (by omega)]; exact hI.least, by rw [e _ (by omega)]; exact hI.coarse, by rw [e _ (by omega)]; exact hI.diff, rowsI (fun j _ _ => e _ (by omega)) (e _ (by omega)) hI, fun q hq => ?_, keepI (fun j _ _ => e _ (by omega)) hI⟩
  have h2 := hI.person hq
  rw [show oP (masS σ p k) q 0 = oP σ q 0 from e _ (by omega), show oP (masS σ p k) q 1 = oP σ q 1 from e _ (by omega)]
  by_cases c : q = p
  · rw [c, mas_2]; rw [c] at h2; exact ⟨h2.1, h2.2.1, hk⟩
  · rw [show oP (masS σ p k) q 2 = oP σ q 2 from e _ (by omega)]; exact h2
theorem mas_R (hR : Rep σ f z) (hI : Inv σ) {p k : Nat} (hp : p < 5) : Rep (masS σ p k) (va_up f 6 (upd (f 6) p (mI k))) z := by
  have e : ∀ j, ¬ j = 70 + 5 * p + 2 → masS σ p k j = σ j := fun j hj => nup_e hj
  refine ⟨by rw [e _ (by omega)]; exact hR.n, by rw [e _ (by omega)]; exact hR.rules, by rw [e _ (by omega)]; exact hR.given, fun r hr => rowsR (fun j _ _ => e _ (by omega)) (e _ (by omega)) hI hR r hr, fun q hq => ?_, fun q hq => keepR (fun j _ _ => e _ (by omega)) hI hR q hq, fun i hi => setsR (fun j _ _ => e _ (by omega)) hR i hi⟩
  show f 4 q = _ ∧ f 5 q = _ ∧ upd (f 6) p (mI k) q = _ ∧ _
  rw [show oP (masS σ p k) q 0 = oP σ q 0 from e _ (by omega), show oP (masS σ p k) q 1 = oP σ q 1 from e _ (by omega), show oP (masS σ p k) q 3 = oP σ q 3 from e _ (by omega), show oP (masS σ p k) q 4 = oP σ q 4 from e _ (by omega)]
  by_cases c : q = p
  · rw [c, mas_2, up_t]; exact ⟨hR.rank hp, hR.home hp, rfl, hR.asked hp, hR.refused hp⟩
  · rw [show oP (masS σ p k) q 2 = oP σ q 2 from e _ (by omega), up_f c]; exact ⟨hR.rank hq, hR.home hq, hR.master hq, hR.asked hq, hR.refused hq⟩
-- tallies
def cntS (σ : Nat → Nat) (p k : Nat) : Nat → Nat := nup (nup σ (70 + 5 * p + 3) (oP σ p 3 + 1)) (70 + 5 * p + 4) (oP σ p 4 + k)
theorem cnt_x {p k j : Nat} (hj : ¬ (j = 70 + 5 * p + 3 ∨ j = 70 + 5 * p + 4)) : cntS σ p k j = σ j := by unfold cntS; rw [nup_e (by omega), nup_e (by omega)]
theorem cnt_3 {p k : Nat} : oP (cntS σ p k) p 3 = oP σ p 3 + 1 := by
  show cntS σ p k (70 + 5 * p + 3) = _
  unfold cntS; rw [nup_e (by omega), nup_v]
theorem cnt_4 {p k : Nat} : oP (cntS σ p k) p 4 = oP σ p 4 + k := by
  show cntS σ p k (70 + 5 * p + 4) = _
  unfold cntS; rw [nup_v]
theorem cnt_I (hI : Inv σ) {p k : Nat} (hp : p < 5) : Inv (cntS σ p k) := by
  refine ⟨by rw [cnt_x (by omega)]; exact hI.n, by rw [cnt_x (by omega)]; exact hI.rules, by rw [cnt_x (by omega)]; exact hI.least, by rw [cnt_x (by omega)]; exact hI.coarse, by rw [cnt_x (by omega)]; exact hI.diff, rowsI (fun j _ _ => cnt_x (by omega)) (cnt_x (by omega)) hI, fun q hq => ?_, keepI (fun j _ _ => cnt_x (by omega)) hI⟩
  rw [show oP (cntS σ p k) q 0 = oP σ q 0 from cnt_x (by omega), show oP (cntS σ p k) q 1 = oP σ q 1 from cnt_x (by omega), show oP (cntS σ p k) q 2 = oP σ q 2 from cnt_x (by omega)]; exact hI.person hq
theorem cnt_R (hR : Rep σ f z) (hI : Inv σ) {p : Nat} (hp : p < 5) (b : Bool) : Rep (cntS σ p (if b = true then 1 else 0)) (va_up (va_up f 9 (upd (f 9) p (f 9 p + nI 1))) 10 (if b = true then upd (f 10) p (f 10 p + nI 1) else f 10)) z := by
  refine ⟨by rw [cnt_x (by omega)]; exact hR.n, by rw [cnt_x (by omega)]; exact hR.rules, by rw [cnt_x (by omega)]; exact hR.given, fun r hr => rowsR (fun j _ _ => cnt_x (by omega)) (cnt_x (by omega)) hI hR r hr, fun q hq => ?_, fun q hq => keepR (fun j _ _ => cnt_x (by omega)) hI hR q hq, fun i hi => setsR (fun j _ _ => cnt_x (by omega)) hR i hi⟩
  show f 4 q = _ ∧ f 5 q = _ ∧ f 6 q = _ ∧ upd (f 9) p (f 9 p + nI 1) q = _ ∧ (if b = true then upd (f 10) p (f 10 p + nI 1) else f 10) q = _
  generalize hk : (if b = true then 1 else 0) = k
  rw [show oP (cntS σ p k) q 0 = oP σ q 0 from cnt_x (by omega), show oP (cntS σ p k) q 1 = oP σ q 1 from cnt_x (by omega), show oP (cntS σ p k) q 2 = oP σ q 2 from cnt_x (by omega)]
  refine ⟨hR.rank hq, hR.home hq, hR.master hq, ?_, ?_⟩
  · by_cases c : q = p
    · rw [c, up_t, cnt_3, hR.asked hp, nI_add]
    · rw [up_f c, show oP (cntS σ p k) q 3 = oP σ q 3 from cnt_x (by omega)]; exact hR.asked hq
  · by_cases c : q = p
    · rw [c, cnt_4]
      cases b with
      | true => subst hk; rw [if_pos rfl, if_pos rfl, up_t, hR.refused hp, nI_add]
      | false => subst hk; rw [if_neg (by decide), if_neg (by decide)]; exact hR.refused hp
    · rw [show oP (cntS σ p k) q 4 = oP σ q 4 from cnt_x (by omega)]
      cases b with
      | true => rw [if_pos rfl, up_f c]; exact hR.refused hq
      | false => rw [if_neg (by decide)]; exact hR.refused hq
-- settings
def setS (σ : Nat → Nat) (i v : Nat) : Nat → Nat := nup σ (2 + i) v
theorem set_I (hI : Inv σ) {i v : Nat} (hi : i < 3) (h2 : i = 2 → v ≤ 1) (h1 : ¬ i = 2 → 1 ≤ v ∧ v ≤ 9) : Inv (setS σ i v) := by
  have e : ∀ j, ¬ j = 2 + i → setS σ i v j = σ j := fun j hj => nup_e hj
  have ev : setS σ i v (2 + i) = v := nup_v
  refine ⟨by rw [e _ (by omega)]; exact hI.n, by rw [e _ (by omega)]; exact hI.rules, ?_, ?_, ?_, rowsI (fun j _ _ => e _ (by omega)) (e _ (by omega)) hI, persI (fun j _ _ => e _ (by omega)) hI, keepI (fun j _ _ => e _ (by omega)) hI⟩
  · by_cases c : i = 0
    · subst c; rw [show setS σ 0 v 2 = v from ev]; exact h1 (by omega)
    · rw [e _ (by omega)]; exact hI.least
  · by_cases c : i = 1
    · subst c; rw [show setS σ 1 v 3 = v from ev]; exact h1 (by omega)
    · rw [e _ (by omega)]; exact hI.coarse
  · by_cases c : i = 2
    · subst c; rw [show setS σ 2 v 4 = v from ev]; exact h2 rfl
    · rw [e _ (by omega)]; exact hI.diff
theorem set_R (hR : Rep σ f z) (hI : Inv σ) {i v : Nat} (hi : i < 3) : Rep (setS σ i v) (va_up f 11 (upd (f 11) i (nI v))) z := by
  have e : ∀ j, ¬ j = 2 + i → setS σ i v j = σ j := fun j hj => nup_e hj
  have ev : setS σ i v (2 + i) = v := nup_v
  refine ⟨by rw [e _ (by omega)]; exact hR.n, by rw [e _ (by omega)]; exact hR.rules, by rw [e _ (by omega)]; exact hR.given, fun r hr => rowsR (fun j _ _ => e _ (by omega)) (e _ (by omega)) hI hR r hr, fun q hq => persR (fun j _ _ => e _ (by omega)) hR q hq, fun q hq => keepR (fun j _ _ => e _ (by omega)) hI hR q hq, fun k hk => ?_⟩
  show upd (f 11) i (nI v) k = _
  by_cases c : k = i
  · rw [c, up_t, ev]
  · rw [up_f c, e _ (by omega)]; exact hR.set hk
-- rules, and what is given away
def frcS (σ : Nat → Nat) (v : Nat) : Nat → Nat := nup σ 1 v
theorem frc_I (hI : Inv σ) {v : Nat} (hv : v < 16) : Inv (frcS σ v) := by
  have e : ∀ j, ¬ j = 1 → frcS σ v j = σ j := fun j hj => nup_e hj
  exact ⟨by rw [e _ (by omega)]; exact hI.n, hv, by rw [e _ (by omega)]; exact hI.least, by rw [e _ (by omega)]; exact hI.coarse, by rw [e _ (by omega)]; exact hI.diff, rowsI (fun j _ _ => e _ (by omega)) (e _ (by omega)) hI, persI (fun j _ _ => e _ (by omega)) hI, keepI (fun j _ _ => e _ (by omega)) hI⟩
theorem frc_R (hR : Rep σ f z) (hI : Inv σ) {v : Nat} : Rep (frcS σ v) f (va_up z 1 (nI v)) := by
  have e : ∀ j, ¬ j = 1 → frcS σ v j = σ j := fun j hj => nup_e hj
  exact ⟨by rw [e _ (by omega)]; exact hR.n, rfl, by rw [e _ (by omega)]; exact hR.given, fun r hr => rowsR (fun j _ _ => e _ (by omega)) (e _ (by omega)) hI hR r hr, fun q hq => persR (fun j _ _ => e _ (by omega)) hR q hq, fun q hq => keepR (fun j _ _ => e _ (by omega)) hI hR q hq, fun i hi => setsR (fun j _ _ => e _ (by omega)) hR i hi⟩
def givS (σ : Nat → Nat) : Nat → Nat := nup σ 5 (σ 5 + 1)
theorem giv_I (hI : Inv σ) : Inv (givS σ) := by
  have e : ∀ j, ¬ j = 5 → givS σ j = σ j := fun j hj => nup_e hj
  exact ⟨by rw [e _ (by omega)]; exact hI.n, by rw [e _ (by omega)]; exact hI.rules, by rw [e _ (by omega)]; exact hI.least, by rw [e _ (by omega)]; exact hI.coarse, by rw [e _ (by omega)]; exact hI.diff, rowsI (fun j _ _ => e _ (by omega)) (e _ (by omega)) hI, persI (fun j _ _ => e _ (by omega)) hI, keepI (fun j _ _ => e _ (by omega)) hI⟩
theorem giv_R (hR : Rep σ f z) (hI : Inv σ) : Rep (givS σ) f (va_up z 2 (nI (σ 5 + 1))) := by
  have e : ∀ j, ¬ j = 5 → givS σ j = σ j := fun j hj => nup_e hj
  exact ⟨by rw [e _ (by omega)]; exact hR.n, by rw [e _ (by omega)]; exact hR.rules, rfl, fun r hr => rowsR (fun j _ _ => e _ (by omega)) (e _ (by omega)) hI hR r hr, fun q hq => persR (fun j _ _ => e _ (by omega)) hR q hq, fun q hq => keepR (fun j _ _ => e _ (by omega)) hI hR q hq, fun i hi => setsR (fun j _ _ => e _ (by omega)) hR i hi⟩
-- forgotten
def fgtS (σ : Nat → Nat) (p : Nat) : Nat → Nat := fun j => if 95 + 7 * p ≤ j ∧ j < 102 + 7 * p then 0 else σ j
theorem fgt_e {p j : Nat} (h : ¬ (95 + 7 * p ≤ j ∧ j < 102 + 7 * p)) : fgtS σ p j = σ j := if_neg h
theorem fgt_v {p : Nat} : oK (fgtS σ p) p = 0 := if_pos (by omega)
theorem fgt_I (hI : Inv σ) {p : Nat} (hp : p < 5) : Inv (fgtS σ p) := by
  refine ⟨by rw [fgt_e (by omega)]; exact hI.n, by rw [fgt_e (by omega)]; exact hI.rules, by rw [fgt_e (by omega)]; exact hI.least, by rw [fgt_e (by omega)]; exact hI.coarse, by rw [fgt_e (by omega)]; exact hI.diff, rowsI (fun j _ _ => fgt_e (by omega)) (fgt_e (by omega)) hI, persI (fun j _ _ => fgt_e (by omega)) hI, fun q hq => ?_⟩
  by_cases c : q = p
  · rw [c, fgt_v]; exact ⟨by omega, fun k hk => absurd hk (Nat.not_lt_zero k)⟩
  · have h6 := hI.kept hq
    rw [show oK (fgtS σ p) q = oK σ q from fgt_e (by omega)]
    refine ⟨h6, fun k hk => ?_⟩
    rw [show oM (fgtS σ p) q k = oM σ q k from fgt_e (by omega)]; exact hI.mask hq hk
theorem fgt_R (hR : Rep σ f z) (hI : Inv σ) {p : Nat} (hp : p < 5) : Rep (fgtS σ p) (va_up f 8 (upd (f 8) p (nI 0))) z := by
  refine ⟨by rw [fgt_e (by omega)]; exact hR.n, by rw [fgt_e (by omega)]; exact hR.rules, by rw [fgt_e (by omega)]; exact hR.given, fun r hr => rowsR (fun j _ _ => fgt_e (by omega)) (fgt_e (by omega)) hI hR r hr, fun q hq => persR (fun j _ _ => fgt_e (by omega)) hR q hq, fun q hq => ?_, fun i hi => setsR (fun j _ _ => fgt_e (by omega)) hR i hi⟩
  show upd (f 8) p (nI 0) q = _ ∧ _
  by_cases c : q = p
  · rw [c, fgt_v, up_t]; exact ⟨rfl, fun k hk => absurd hk (Nat.not_lt_zero k)⟩
  · have h6 := hI.kept hq
    rw [show oK (fgtS σ p) q = oK σ q from fgt_e (by omega), up_f c]
    refine ⟨hR.kept hq, fun k hk => ?_⟩
    rw [show oM (fgtS σ p) q k = oM σ q k from fgt_e (by omega)]; exact hR.mask hq hk
-- remembered
def remS (σ : Nat → Nat) (p x : Nat) : Nat → Nat := fun j => if j = 95 + 7 * p then kpN (oK σ p) else if 96 + 7 * p ≤ j ∧ j < 102 + 7 * p then (if oK σ p < 6 then (if j = 96 + 7 * p + oK σ p then x else σ j) else (if j = 101 + 7 * p then x else σ (j + 1))) else σ j
theorem rem_e {p x j : Nat} (h : ¬ (95 + 7 * p ≤ j ∧ j < 102 + 7 * p)) : remS σ p x j = σ j := by
  unfold remS; rw [if_neg (by omega), if_neg (by omega)]
theorem rem_K {p x : Nat} : oK (remS σ p x) p = kpN (oK σ p) := if_pos rfl
theorem rem_M {p x k : Nat} (hk : k < 6) : oM (remS σ p x) p k = if oK σ p < 6 then (if k = oK σ p then x else oM σ p k) else (if k = 5 then x else oM σ p (k + 1)) := by
  show remS σ p x (96 + 7 * p + k) = _
  unfold remS
  rw [if_neg (by omega), if_pos (by omega)]
  by_cases c : oK σ p < 6
  · rw [if_pos c, if_pos c]
    by_cases d : k = oK σ p
    · rw [if_pos (by omega), if_pos d]
    · rw [if_neg (by omega), if_neg d]; rfl
  · rw [if_neg c, if_neg c]
    by_cases d : k = 5
    · rw [if_pos (by omega), if_pos d]
    · rw [if_neg (by omega), if_neg d]; rfl
theorem kpN_le {K : Nat} (h : K ≤ 6) : kpN K ≤ 6 := by unfold kpN; split <;> omega
theorem rem_I (hI : Inv σ) {p x : Nat} (hp : p < 5) (hx : x < 65536) : Inv (remS σ p x) := by
  refine ⟨by rw [rem_e (by omega)]; exact hI.n, by rw [rem_e (by omega)]; exact hI.rules, by rw [rem_e (by omega)]; exact hI.least, by rw [rem_e (by omega)]; exact hI.coarse, by rw [rem_e (by omega)]; exact hI.diff, rowsI (fun j _ _ => rem_e (by omega)) (rem_e (by omega)) hI, persI (fun j _ _ => rem_e (by omega)) hI, fun q hq => ?_⟩
  have h6 := hI.kept hq
  by_cases c : q = p
  · subst c
    rw [rem_K]
    refine ⟨kpN_le h6, fun k hk => ?_⟩
    have hk6 := kpN_le h6
    rw [rem_M (by omega)]
    by_cases d : oK σ q < 6
    · rw [kpN_some d] at hk
      rw [if_pos d]; split
      · exact hx
      · exact hI.mask hq (by omega)
    · rw [if_neg d]; split
      · exact hx
      · rw [kpN_full d] at hk; exact hI.mask hq (by omega)
  · rw [show oK (remS σ p x) q = oK σ q from rem_e (by omega)]
    refine ⟨h6, fun k hk => ?_⟩
    rw [show oM (remS σ p x) q k = oM σ q k from rem_e (by omega)]; exact hI.mask hq hk
theorem rem_R (hR : Rep σ f z) (hI : Inv σ) {p x : Nat} (hp : p < 5) : Rep (remS σ p x) (va_up (va_up f 7 (kpM (f 7) p (oK σ p) (nI x))) 8 (upd (f 8) p (nI (kpN (oK σ p))))) z := by
  refine ⟨by rw [rem_e (by omega)]; exact hR.n, by rw [rem_e (by omega)]; exact hR.rules, by rw [rem_e (by omega)]; exact hR.given, fun r hr => rowsR (fun j _ _ => rem_e (by omega)) (rem_e (by omega)) hI hR r hr, fun q hq => persR (fun j _ _ => rem_e (by omega)) hR q hq, fun q hq => ?_, fun i hi => setsR (fun j _ _ => rem_e (by omega)) hR i hi⟩
  show upd (f 8) p (nI (kpN (oK σ p))) q = _ ∧ ∀ k, k < _ → kpM (f 7) p (oK σ p) (nI x) (q * 6 + k) = _
  have h6 := hI.kept hq
  by_cases c : q = p
  · subst c
    rw [rem_K, up_t]
    refine ⟨rfl, fun k hk => ?_⟩
    have hk6 := kpN_le h6
    rw [rem_M (by omega)]
    by_cases d : oK σ q < 6
    · rw [kpN_some d] at hk
      rw [if_pos d, ← kpM_some d]
      by_cases d2 : k = oK σ q
      · rw [if_pos d2, d2, up_t]
      · rw [if_neg d2, up_f (by omega)]; exact hR.mask hq (by omega)
    · rw [kpN_full d] at hk
      rw [if_neg d, ← kpM_full d]
      by_cases d2 : k = 5
      · rw [if_pos d2, d2, up_t]
      · rw [if_neg d2, up_f (by omega)]
        show (if q * 6 ≤ q * 6 + k ∧ q * 6 + k < q * 6 + 6 - 1 then f 7 (q * 6 + k + 1) else f 7 (q * 6 + k)) = _
        rw [if_pos (by omega)]; exact hR.mask hq (k := k + 1) (by omega)
  · rw [show oK (remS σ p x) q = oK σ q from rem_e (by omega), up_f c]
    refine ⟨hR.kept hq, fun k hk => ?_⟩
    rw [show oM (remS σ p x) q k = oM σ q k from rem_e (by omega), ← hR.mask hq hk]
    have hkp := hI.kept hp
    unfold kpM
    split
    · rw [up_f (by omega)]
    · rw [up_f (by omega)]
      exact if_neg (by omega)
end ST
