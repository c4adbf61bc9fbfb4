/-! Worlds that are put together: taken apart, put in another order, and calls over a first part. -/
theorem inj_nodup : ∀ (l : List Nat), (∀ (i j a : Nat), l[i]? = some a → l[j]? = some a → i = j) → l.Nodup
  | [], _ => List.nodup_nil
  | a :: l, h => by
    refine List.nodup_cons.mpr ⟨fun hm => ?_, inj_nodup l (fun i j b hi hj => ?_)⟩
    · obtain ⟨i, hi⟩ := List.mem_iff_getElem?.mp hm
      have := h 0 (i + 1) a rfl hi
      omega
    · have := h (i + 1) (j + 1) b hi hj
      omega
theorem nodup_inj : ∀ (l : List Nat), l.Nodup → ∀ (i j a : Nat), l[i]? = some a → l[j]? = some a → i = j
  | [], _, i, j, a, hi, _ => by simp at hi
  | b :: l, h, i, j, a, hi, hj => by
    obtain ⟨h1, h2⟩ := List.nodup_cons.mp h
    rcases i with _ | i
    · rcases j with _ | j
      · rfl
      · have e : b = a := Option.some.inj hi
        have hj' : l[j]? = some a := hj
        exact absurd (List.mem_of_getElem? hj') (e ▸ h1)
    · rcases j with _ | j
      · have e : b = a := Option.some.inj hj
        have hi' : l[i]? = some a := hi
        exact absurd (List.mem_of_getElem? hi') (e ▸ h1)
      · have hi' : l[i]? = some a := hi
        have hj' : l[j]? = some a := hj
        rw [nodup_inj l h2 i j a hi' hj']
section AP
variable {Γ : Gm} {A A0 : Nat → Prop} {ws ws' w1 w2 wc wr : va_W} {H H1 : Heap}
theorem gP_of (h : ∀ q ∈ ws, va_at Γ.1 vwCl q H) : gP Γ ws H := fun _ q hq => h q (List.mem_of_getElem? hq)
theorem gP_m (h : gP Γ ws H) {q : Nat × va_E} (hq : q ∈ ws) : va_at Γ.1 vwCl q H := by
  obtain ⟨k, hk⟩ := List.mem_iff_getElem?.mp hq
  exact h k q hk
theorem gD_of (h1 : (ws.map Prod.fst).Nodup) (h2 : ∀ q ∈ ws, A q.1) : va_D A ws :=
  ⟨fun i j p q hp hq e => nodup_inj _ h1 i j p.1 (by rw [List.getElem?_map, hp]; rfl) (by rw [List.getElem?_map, hq, e]; rfl), fun _ q hk => h2 q (List.mem_of_getElem? hk)⟩
theorem gD_nd (h : va_D A ws) : (ws.map Prod.fst).Nodup := by
  refine inj_nodup _ (fun i j a hi hj => ?_)
  rw [List.getElem?_map] at hi hj
  cases hp : ws[i]? with
  | none => rw [hp] at hi; cases hi
  | some p =>
    cases hq : ws[j]? with
    | none => rw [hq] at hj; cases hj
    | some q =>
      rw [hp] at hi; rw [hq] at hj
      exact h.1 i j p q hp hq ((Option.some.inj hi).trans (Option.some.inj hj).symm)
theorem gD_m (h : va_D A ws) {q : Nat × va_E} (hq : q ∈ ws) : A q.1 := by
  obtain ⟨k, hk⟩ := List.mem_iff_getElem?.mp hq
  exact h.2 k q hk
theorem gP_perm (h : gP Γ ws H) (p : ws.Perm ws') : gP Γ ws' H := gP_of (fun _ hq => gP_m h (p.mem_iff.mpr hq))
theorem gD_perm (h : va_D A ws) (p : ws.Perm ws') : va_D A ws' := gD_of ((p.map Prod.fst).nodup_iff.mp (gD_nd h)) (fun _ hq => gD_m h (p.mem_iff.mpr hq))
theorem gP_l (h : gP Γ (w1 ++ w2) H) : gP Γ w1 H := gP_of (fun _ hq => gP_m h (List.mem_append_left _ hq))
theorem gP_r (h : gP Γ (w1 ++ w2) H) : gP Γ w2 H := gP_of (fun _ hq => gP_m h (List.mem_append_right _ hq))
theorem gD_l (h : va_D A (w1 ++ w2)) : va_D A w1 := by
  have h1 := gD_nd h
  rw [List.map_append] at h1
  exact gD_of (List.nodup_append.mp h1).1 (fun _ hq => gD_m h (List.mem_append_left _ hq))
theorem gD_r (h : va_D A (w1 ++ w2)) : va_D A w2 := by
  have h1 := gD_nd h
  rw [List.map_append] at h1
  exact gD_of (List.nodup_append.mp h1).2.1 (fun _ hq => gD_m h (List.mem_append_right _ hq))
theorem gD_x (h : va_D A (w1 ++ w2)) {p q : Nat × va_E} (hp : p ∈ w1) (hq : q ∈ w2) : p.1 ≠ q.1 := by
  have h1 := gD_nd h
  rw [List.map_append] at h1
  exact (List.nodup_append.mp h1).2.2 p.1 (List.mem_map_of_mem hp) q.1 (List.mem_map_of_mem hq)
theorem gP_a (h1 : gP Γ w1 H) (h2 : gP Γ w2 H) : gP Γ (w1 ++ w2) H := va_P.app h1 h2
theorem gD_a (h1 : va_D A w1) (h2 : va_D A w2) (hx : ∀ p ∈ w1, ∀ q ∈ w2, p.1 ≠ q.1) : va_D A (w1 ++ w2) := by
  refine gD_of ?_ (fun q hq => (List.mem_append.mp hq).elim (gD_m h1) (gD_m h2))
  rw [List.map_append]
  refine List.nodup_append.mpr ⟨gD_nd h1, gD_nd h2, fun a ha b hb => ?_⟩
  obtain ⟨p, hp, rfl⟩ := List.mem_map.mp ha
  obtain ⟨q, hq, rfl⟩ := List.mem_map.mp hb
  exact hx p hp q hq
theorem gA_m {sz : Nat} {q : Nat} (h : va_A ws sz q) : (∃ e, (q, e) ∈ ws) ∨ sz ≤ q := by
  rcases h with ⟨k, e, h⟩ | h
  · exact Or.inl ⟨e, List.mem_of_getElem? h⟩
  · exact Or.inr h
theorem gF {H0 : Heap} {locs : List Loc} (hD : va_D A0 (wc ++ wr)) (hS : va_S A0 H0 H locs) (hA : ∀ q, H0.size ≤ q → A0 q) : ∀ q, va_A wc H.size q → A0 q := by
  intro q h
  rcases gA_m h with ⟨e, h⟩ | h
  · exact gD_m hD (List.mem_append_left _ h)
  · exact hA q (Nat.le_trans hS.1 h)
theorem app_join (hP : gP Γ (wc ++ wr) H) (hD : va_D A0 (wc ++ wr)) (hk : ∀ q : Nat, q < H.size → ¬ va_A wc H.size q → H1[q]? = H[q]?) (hF : ∀ q, va_A wc H.size q → A0 q) (hP1 : gP Γ w1 H1) (hD1 : va_D (va_A wc H.size) w1) : gP Γ (w1 ++ wr) H1 ∧ va_D A0 (w1 ++ wr) := by
  have apart : ∀ q ∈ wr, q.1 < H.size ∧ ¬ va_A wc H.size q.1 := by
    intro q hq
    have hl := (gP_m hP (List.mem_append_right _ hq)).lt
    refine ⟨hl, fun h => ?_⟩
    rcases gA_m h with ⟨e, h⟩ | h
    · exact gD_x hD h hq rfl
    · omega
  refine ⟨gP_a hP1 (gP_of (fun q hq => ?_)), gD_a (hD1.weaken (fun _ q _ h => hF q.1 h)) (gD_r hD) (fun p hp q hq e => ?_)⟩
  · obtain ⟨g1, g2⟩ := apart q hq
    exact (gP_m hP (List.mem_append_right _ hq)).kept (hk q.1 g1 g2)
  · exact (apart q hq).2 (e ▸ gD_m hD1 hp)
end AP
section AC
variable {p : Program} {l : Launch} {e : Env} {R : Room} {s : State} {m : MethodId} {args : Array Value} {below : List Frame} {meth : Method} {c : Code} {H : Heap} {locs : List Loc} {cells slots : Nat} {Q : State → Prop}
variable {Ts wy wy' : List Cond} {cc bytes : ByteArray} {nL maxL index n pc : Nat} {own C : String} {y : MethodName} {ret : Option FieldType} {rm : Room} {b : Nat} {As rest st : List Value} {ls : Array Slot} {Γ : Gm} {ws wc wr : va_W}
variable {S0 : Type} {mc ms : Nat} {A0 : Nat → Prop} {H0 : Heap}
/-- writers called over the first part of a world -/
theorem aWi {post : Int32 → S0 → Prop} {w1 : S0 → va_W} (hM : Met l y wy rm (va_Pc (.ref b :: As) (ws0 Γ H.size wc)) (va_Qi post (fun u t => wd Γ (va_A wc H.size) (w1 u) t) (va_A wc H.size)) mc ms (va_A wc H.size))
    (S : CallFix p m c cc nL s args Ts own) (k : Cal y wy rm bytes maxL ret n mc ms) (hT : GoodIn Ts (wsV own index C y wy)) (hC : y.cls = C) (hR : rm.frames + 1 ≤ R.frames ∧ 8 + (maxL + 11) + rm.locals ≤ R.locals)
    (hK : gK Γ s) (hP : gP Γ (wc ++ wr) H) (hD : va_D A0 (wc ++ wr)) (hS : va_S A0 H0 H locs) (hA : ∀ q, H0.size ≤ q → A0 q)
    (q0 : Nat) {ci : Nat} {q : vw_C} {fs : List Value} (hc : vwCl[ci]? = some q) (he : wc[q0]? = some (b, .inr (ci, fs))) (hq : q.1 = C) (hn : As.length = n) (hl : ls.size = nL) (hroom : (rest.map fun v => v.category).sum ≤ 8)
    (hst : st = As.reverse ++ .ref b :: rest) (hdg : decode cc pc = .ok (.invokevirtual index, 3)) (hce : cells + mc ≤ R.cells ∧ slots + ms ≤ R.slots)
    (kk : ∀ (r : Int32) (u : S0) (H1 : Heap) (locs1 : List Loc), post r u → gP Γ (w1 u ++ wr) H1 → va_D A0 (w1 u ++ wr) → va_S A0 H0 H1 locs1 → W p l e R s m args below meth c H1 locs1 (cells + mc) (slots + ms) Q (F0 m (pc + 3) ls (.int r :: rest))) : W p l e R s m args below meth c H locs cells slots Q (F0 m pc ls st) := by
  subst hst
  subst hq
  have hP2 := gP_l hP
  have hF := gF hD hS hA
  exact va_calli (va_runV S hM (k.V S.2.2.2.2 hT hC hR) ⟨ws0_blind, va_recv hK hP2 hc he, fun U hU hW => ⟨rfl, by rw [hU], by rw [hU]; exact hP2, va_K.moved hW.alike hK, (gD_l hD).weaken (fun _ _ _ _ => trivial)⟩⟩ rfl hn hl rfl (lv_room hroom) hdg hce) hS (fun q _ h => hF q h) hF
    (fun r u t H1 locs1 ht hvm hp hB hz1 hk1 hS1 => by
      obtain ⟨hP1, hK1, hD1⟩ := hB
      rw [ht] at hP1
      obtain ⟨hP3, hD3⟩ := app_join hP hD hk1 hF hP1 hD1
      exact kk r u H1 locs1 hp hP3 hD3 hS1)
theorem aWv {post : S0 → Prop} {w1 : S0 → va_W} (hM : Met l y wy rm (va_Pc (.ref b :: As) (ws0 Γ H.size wc)) (va_Qv post (fun u t => wd Γ (va_A wc H.size) (w1 u) t) (va_A wc H.size)) mc ms (va_A wc H.size))
    (S : CallFix p m c cc nL s args Ts own) (k : Cal y wy rm bytes maxL ret n mc ms) (hT : GoodIn Ts (wsV own index C y wy)) (hC : y.cls = C) (hR : rm.frames + 1 ≤ R.frames ∧ 8 + (maxL + 11) + rm.locals ≤ R.locals)
    (hK : gK Γ s) (hP : gP Γ (wc ++ wr) H) (hD : va_D A0 (wc ++ wr)) (hS : va_S A0 H0 H locs) (hA : ∀ q, H0.size ≤ q → A0 q)
    (q0 : Nat) {ci : Nat} {q : vw_C} {fs : List Value} (hc : vwCl[ci]? = some q) (he : wc[q0]? = some (b, .inr (ci, fs))) (hq : q.1 = C) (hn : As.length = n) (hl : ls.size = nL) (hroom : (rest.map fun v => v.category).sum ≤ 8)
    (hst : st = As.reverse ++ .ref b :: rest) (hdg : decode cc pc = .ok (.invokevirtual index, 3)) (hce : cells + mc ≤ R.cells ∧ slots + ms ≤ R.slots)
    (kk : ∀ (u : S0) (H1 : Heap) (locs1 : List Loc), post u → gP Γ (w1 u ++ wr) H1 → va_D A0 (w1 u ++ wr) → va_S A0 H0 H1 locs1 → W p l e R s m args below meth c H1 locs1 (cells + mc) (slots + ms) Q (F0 m (pc + 3) ls rest)) : W p l e R s m args below meth c H locs cells slots Q (F0 m pc ls st) := by
  subst hst
  subst hq
  have hP2 := gP_l hP
  have hF := gF hD hS hA
  exact va_callv (va_runV S hM (k.V S.2.2.2.2 hT hC hR) ⟨ws0_blind, va_recv hK hP2 hc he, fun U hU hW => ⟨rfl, by rw [hU], by rw [hU]; exact hP2, va_K.moved hW.alike hK, (gD_l hD).weaken (fun _ _ _ _ => trivial)⟩⟩ rfl hn hl rfl (lv_room hroom) hdg hce) hS (fun q _ h => hF q h) hF
    (fun u t H1 locs1 ht hvm hp hB hz1 hk1 hS1 => by
      obtain ⟨hP1, hK1, hD1⟩ := hB
      rw [ht] at hP1
      obtain ⟨hP3, hD3⟩ := app_join hP hD hk1 hF hP1 hD1
      exact kk u H1 locs1 hp hP3 hD3 hS1)
end AC
