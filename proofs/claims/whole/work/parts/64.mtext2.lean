/-! The reference reads the text: rows' ends and bad places. -/
def badP (B : Nat → Nat) (n t : Nat) : Prop := t ≤ n ∧ ¬ sg B t = 8 ∧ (t < n → sg B (t + 1) = 8) ∧ (t = n → sg B t < 3)
def wlP (B : Nat → Nat) (n a r t : Nat) : Prop := t ≤ n ∧ sta B n t = a ∧ prt B n t = r ∧ ¬ sg B t = 8
theorem wlP.go {B : Nat → Nat} {n a r t : Nat} (h : wlP B n a r t) (ht : t < n) (h44 : ¬ B t = 44) (h8 : ¬ sg B (t + 1) = 8) : wlP B n a r (t + 1) := by
  have hc : cmQ B n t = false := by unfold cmQ; rw [decide_eq_false h44, decide_eq_false (by omega)]; rfl
  exact ⟨by omega, by rw [sta_f hc]; exact h.2.1, by rw [prt_f hc]; exact h.2.2.1, h8⟩
theorem wlP.ok {B : Nat → Nat} {n a r t : Nat} (h : wlP B n a r t) : okS B t a := by
  have := ok_go h.1 h.2.2.2; rw [h.2.1] at this; exact this
theorem wlP.bad {B : Nat → Nat} {n a r t : Nat} (h : wlP B n a r t) (h3 : sg B t < 3) (hx : t < n → sg B (t + 1) = 8) : badP B n t := ⟨h.1, h.2.2.2, hx, fun _ => h3⟩
theorem sgn_in {B : Nat → Nat} {n t : Nat} (h : t < n) : sgnN B n t = B t := if_pos h
theorem sgn_out {B : Nat → Nat} {n t : Nat} (h : ¬ t < n) : sgnN B n t = 0 := if_neg h
theorem in_dig {x : Nat} (h : x < 127) : inI (nI x) (nI 48) (nI 57) = digQ x := by rw [inI_n (by omega) (by decide) (by decide)]; rfl
def RQ (B : Nat → Nat) (n a r : Nat) (S : Nat → Prop) (t : Nat) (w : Bool) : Prop := (w = false → badP B n t) ∧ (w = true → wlP B n a r t ∧ S t)
theorem RQ.le {B : Nat → Nat} {n a r : Nat} {S : Nat → Prop} {t : Nat} {w : Bool} (h : RQ B n a r S t w) : t ≤ n := by
  cases w with
  | false => exact (h.1 rfl).1
  | true => exact (h.2 rfl).1.1
/-- a step of the reading: one code further where it fits -/
theorem rq_s {B : Nat → Nat} {n a r t : Nat} {w w' : Bool} {S S' : Nat → Prop} {v v' : Nat → Int32} (hq : RQ B n a r S t w) (hT : TS v v' t w') (h0 : w = false → w' = false)
    (hg : w = true → w' = true → wlP B n a r t → S t → t < n ∧ ¬ B t = 44 ∧ ¬ sg B (t + 1) = 8 ∧ S' (t + 1)) (hb : w = true → w' = false → wlP B n a r t → S t → sg B t < 3 ∧ (t < n → sg B (t + 1) = 8)) :
    ∃ t' w'', v' 3 = nI t' ∧ v' 4 = bI w'' ∧ (∀ k, ¬ k = 3 → ¬ k = 4 → v' k = v k) ∧ RQ B n a r S' t' w'' ∧ w'' = w' ∧ (w'' = true → w = true ∧ t' = t + 1 ∧ wlP B n a r t ∧ S t ∧ t < n) := by
  obtain ⟨h3, h4, hk⟩ := hT
  cases w with
  | false =>
    have e := h0 rfl
    subst e
    exact ⟨t, false, h3, h4, hk, ⟨fun _ => hq.1 rfl, fun h => absurd h (by decide)⟩, rfl, fun h => absurd h (by decide)⟩
  | true =>
    obtain ⟨hw, hS⟩ := hq.2 rfl
    cases w' with
    | false =>
      obtain ⟨b1, b2⟩ := hb rfl rfl hw hS
      exact ⟨t, false, h3, h4, hk, ⟨fun _ => hw.bad b1 b2, fun h => absurd h (by decide)⟩, rfl, fun h => absurd h (by decide)⟩
    | true =>
      obtain ⟨g1, g2, g3, g4⟩ := hg rfl rfl hw hS
      exact ⟨t + 1, true, h3, h4, hk, ⟨fun h => absurd h (by decide), fun _ => ⟨hw.go g1 g2 g3, g4⟩⟩, rfl, fun _ => ⟨rfl, rfl, hw, hS, g1⟩⟩
def S0 (B : Nat → Nat) (t : Nat) : Prop := sg B t = 0
def S1 (B : Nat → Nat) (t : Nat) : Prop := sg B t = 1
def S2 (B : Nat → Nat) (t : Nat) : Prop := sg B t = 2
def S3 (B : Nat → Nat) (a t : Nat) : Prop := t = a + 3 ∧ digQ (B (a + 2)) = true ∧ ((sg B t = 3 ∧ ¬ B (a + 2) = 48) ∨ (sg B t = 4 ∧ B (a + 2) = 48))
theorem sg_s (B : Nat → Nat) (t : Nat) : sg B (t + 1) = stp (sg B t) (B t) := rfl
theorem rq1 {B : Nat → Nat} {n a r t : Nat} {v v' : Nat → Int32} (hq : RQ B n a r (S0 B) t true) (hT : TS v v' t (dgQ true (sgnN B n t) 52)) :
    ∃ t' w'', v' 3 = nI t' ∧ v' 4 = bI w'' ∧ (∀ k, ¬ k = 3 → ¬ k = 4 → v' k = v k) ∧ RQ B n a r (S1 B) t' w'' ∧ w'' = dgQ true (sgnN B n t) 52 ∧ (w'' = true → true = true ∧ t' = t + 1 ∧ wlP B n a r t ∧ S0 B t ∧ t < n) := by
  refine rq_s hq hT (fun h => absurd h (by decide)) (fun _ h hw hS => ?_) (fun _ h hw hS => ?_)
  · unfold dgQ at h
    simp only [Bool.true_and, Bool.and_eq_true, decide_eq_true_eq] at h
    have ht : t < n := by
      by_cases c : t < n
      · exact c
      · rw [sgn_out c] at h; omega
    rw [sgn_in ht] at h
    have e : sg B (t + 1) = 1 := by rw [sg_s, show sg B t = 0 from hS, stp_0, if_pos (by omega)]
    exact ⟨ht, by omega, by omega, e⟩
  · unfold S0 at hS
    refine ⟨by omega, fun ht => ?_⟩
    rw [sgn_in ht] at h
    rw [sg_s, hS, stp_0, if_neg]
    intro c
    have : dgQ true (B t) 52 = true := by unfold dgQ; rw [decide_eq_true (by omega), decide_eq_true (by omega)]; rfl
    rw [this] at h; cases h
theorem rq2 {B : Nat → Nat} {n a r t : Nat} {w : Bool} {v v' : Nat → Int32} (hq : RQ B n a r (S1 B) t w) (hT : TS v v' t (w && decide (plN (sgnN B n t) < 4))) :
    ∃ t' w'', v' 3 = nI t' ∧ v' 4 = bI w'' ∧ (∀ k, ¬ k = 3 → ¬ k = 4 → v' k = v k) ∧ RQ B n a r (S2 B) t' w'' ∧ w'' = (w && decide (plN (sgnN B n t) < 4)) ∧ (w'' = true → w = true ∧ t' = t + 1 ∧ wlP B n a r t ∧ S1 B t ∧ t < n) := by
  refine rq_s hq hT (fun h => by rw [h]; rfl) (fun h0 h hw hS => ?_) (fun h0 h hw hS => ?_)
  · rw [h0, Bool.true_and, decide_eq_true_eq] at h
    have ht : t < n := by
      by_cases c : t < n
      · exact c
      · rw [sgn_out c] at h; exact absurd h (by decide)
    rw [sgn_in ht] at h
    have e : sg B (t + 1) = 2 := by rw [sg_s, show sg B t = 1 from hS, stp_1, if_neg (by omega)]
    exact ⟨ht, fun c => by rw [c] at h; exact absurd h (by decide), by omega, e⟩
  · unfold S1 at hS
    refine ⟨by omega, fun ht => ?_⟩
    rw [h0, Bool.true_and, sgn_in ht] at h
    have := of_decide_eq_false h
    have := plN_le (B t)
    rw [sg_s, hS, stp_1, if_pos (by omega)]
theorem rq3 {B : Nat → Nat} {n a r t : Nat} {w : Bool} {v v' : Nat → Int32} (hq : RQ B n a r (S2 B) t w) (hT : TS v v' t (dgQ w (sgnN B n t) 57)) :
    ∃ t' w'', v' 3 = nI t' ∧ v' 4 = bI w'' ∧ (∀ k, ¬ k = 3 → ¬ k = 4 → v' k = v k) ∧ RQ B n a r (S3 B a) t' w'' ∧ w'' = dgQ w (sgnN B n t) 57 ∧ (w'' = true → w = true ∧ t' = t + 1 ∧ wlP B n a r t ∧ S2 B t ∧ t < n) := by
  refine rq_s hq hT (fun h => by rw [h]; rfl) (fun h0 h hw hS => ?_) (fun h0 h hw hS => ?_)
  · rw [h0] at h
    change (true && digQ (sgnN B n t)) = true at h
    rw [Bool.true_and] at h
    have ht : t < n := by
      by_cases c : t < n
      · exact c
      · rw [sgn_out c] at h; exact absurd h (by decide)
    rw [sgn_in ht] at h
    have d := digQ_t.mp h
    have hs : sg B t = 2 := hS
    have hta : t = a + 2 := by rcases hw.ok with ⟨e, -⟩ | ⟨e, -⟩ | ⟨e, q, -⟩ | ⟨e, -⟩ | ⟨e, -⟩ <;> omega
    subst hta
    by_cases c : B (a + 2) = 48
    · have e : sg B (a + 2 + 1) = 4 := by rw [sg_s, hs, stp_2, if_pos c]
      exact ⟨ht, by omega, by omega, rfl, h, Or.inr ⟨e, c⟩⟩
    · have e : sg B (a + 2 + 1) = 3 := by rw [sg_s, hs, stp_2, if_neg c, if_pos h]
      exact ⟨ht, by omega, by omega, rfl, h, Or.inl ⟨e, c⟩⟩
  · unfold S2 at hS
    refine ⟨by omega, fun ht => ?_⟩
    rw [h0, sgn_in ht] at h
    change (true && digQ (B t)) = false at h
    rw [Bool.true_and] at h
    rw [sg_s, hS, stp_2, if_neg (fun c => by rw [c] at h; exact absurd h (by decide)), if_neg (by rw [h]; decide)]
/-- while the marks are read -/
def RMk (B : Nat → Nat) (n a r t : Nat) (w : Bool) (k : Nat) (x : Int32) : Prop := (w = false → badP B n t) ∧ (w = true → wlP B n a r t ∧ ((sg B t = 3 ∧ (t < n → digQ (B t) = false)) ∨ (4 ≤ sg B t ∧ sg B t < 8)) ∧ x = nI (vlu B (a + 2) (t - (a + 2))) ∧ k = scu B (a + 2) (t - (a + 2)))
theorem RMk.le {B : Nat → Nat} {n a r t k : Nat} {w : Bool} {x : Int32} (h : RMk B n a r t w k x) : t ≤ n := by
  cases w with
  | false => exact (h.1 rfl).1
  | true => exact (h.2 rfl).1.1
theorem rl_bad {B : Nat → Nat} {n a r t k : Nat} {w : Bool} {x : Int32} {S : Nat → Prop} (hw : w = false) (h : RQ B n a r S t w) : RMk B n a r t w k x := ⟨h.1, fun q => (by rw [hw] at q; cases q)⟩
theorem vl_1 {B : Nat → Nat} {a : Nat} (h : digQ (B (a + 2)) = true) : vlu B (a + 2) 1 = B (a + 2) - 48 ∧ scu B (a + 2) 1 = 0 := by
  have d1 := digQ_t.mp h
  constructor
  · rw [show (1 : Nat) = 0 + 1 from rfl, vl_f (by rw [Nat.add_zero]; omega), Nat.add_zero]
    show 0 * 10 + _ = _
    omega
  · rw [show (1 : Nat) = 0 + 1 from rfl, sc_f (by rw [Nat.add_zero]; omega)]; rfl
/-- one digit is the value -/
theorem rl_one {B : Nat → Nat} {n a r t : Nat} {w : Bool} {x : Int32} (hw : w = true) (h : RQ B n a r (S3 B a) t w) (hx : x = nI (B (a + 2) - 48)) (hd : B (a + 2) = 48 ∨ digQ (sgnN B n t) = false) : RMk B n a r t w 0 x := by
  refine ⟨fun q => (by rw [hw] at q; cases q), fun _ => ?_⟩
  obtain ⟨hl, ht, hg, hS⟩ := h.2 hw
  obtain ⟨e1, e2⟩ := vl_1 hg
  subst ht
  rw [show a + 3 - (a + 2) = 1 by omega, e1, e2]
  refine ⟨hl, ?_, hx, rfl⟩
  rcases hS with ⟨s1, s2⟩ | ⟨s1, s2⟩
  · refine Or.inl ⟨s1, fun hn => ?_⟩
    rcases hd with hd | hd
    · exact absurd hd s2
    · rw [sgn_in hn] at hd; exact hd
  · exact Or.inr ⟨by omega, by omega⟩
/-- two digits are -/
theorem rl_two {B : Nat → Nat} {n a r t : Nat} {w : Bool} {v v' : Nat → Int32} {x : Int32} (hw : w = true) (h : RQ B n a r (S3 B a) t w) (hx : x = nI (B (a + 2) - 48)) (h0 : ¬ B (a + 2) = 48) (hlt : B t < 127) (hd : digQ (sgnN B n t) = true) (hT : TS v v' t (dgQ w (sgnN B n t) 57)) :
    v' 3 = nI (t + 1) ∧ v' 4 = bI true ∧ (∀ k, ¬ k = 3 → ¬ k = 4 → v' k = v k) ∧ RMk B n a r (t + 1) true 0 (nI 10 * x + (nI (sgnN B n t) - nI 48)) := by
  obtain ⟨h3, h4, hk⟩ := hT
  have hwt : dgQ w (sgnN B n t) 57 = true := by
    rw [hw]; change (true && digQ (sgnN B n t)) = true; rw [hd]; rfl
  rw [hwt] at h3 h4
  refine ⟨h3, h4, hk, fun q => (by cases q), fun _ => ?_⟩
  obtain ⟨hl, ht, hg, hS⟩ := h.2 hw
  obtain ⟨e1, e2⟩ := vl_1 hg
  have hn : t < n := by
    by_cases c : t < n
    · exact c
    · rw [sgn_out c] at hd; exact absurd hd (by decide)
  rw [sgn_in hn] at hd ⊢
  have d := digQ_t.mp hd
  have s1 : sg B t = 3 := by rcases hS with ⟨s1, s2⟩ | ⟨s1, s2⟩ <;> first | exact s1 | exact absurd s2 h0
  have e : sg B (t + 1) = 4 := by rw [sg_s, s1, stp_3, if_pos hd]
  subst ht
  refine ⟨hl.go hn (by omega) (by omega), Or.inr ⟨by omega, by omega⟩, ?_, ?_⟩
  · rw [show a + 3 + 1 - (a + 2) = 1 + 1 by omega, vl_f (t := a + 2) (k := 1) (by show ¬ B (a + 3) = 33; omega), e1, hx, pk_sub d.1]
    rw [pk_mul, nI_add, Nat.mul_comm]
  · rw [show a + 3 + 1 - (a + 2) = 1 + 1 by omega, sc_f (t := a + 2) (k := 1) (by show ¬ B (a + 3) = 33; omega), e2]
theorem rl_ge {B : Nat → Nat} {n a r t : Nat} (hl : wlP B n a r t) (h3 : 3 ≤ sg B t) : a + 3 ≤ t ∧ (4 ≤ sg B t → scu B (a + 2) (t - (a + 2)) + 4 = sg B t) ∧ (sg B t = 3 → scu B (a + 2) (t - (a + 2)) = 0) ∧ 48 ≤ B a ∧ B a < 53 ∧ plN (B (a + 1)) < 4 := by
  rcases hl.ok with ⟨e, -⟩ | ⟨e, -⟩ | ⟨e, -⟩ | ⟨e, ht, o1, o2, o3, o4⟩ | ⟨e1, e2, ht, o1, o2, o3, o4, o5, o6⟩
  · omega
  · omega
  · omega
  · refine ⟨by omega, fun q => by omega, fun _ => ?_, o1, o2, o3⟩
    rw [ht, show a + 3 - (a + 2) = 1 by omega, (vl_1 o4).2]
  · exact ⟨ht, fun _ => o6, fun q => by omega, o1, o2, o3⟩
/-- one mark more -/
theorem rl_s {B : Nat → Nat} {n a r t k : Nat} {w : Bool} {x : Int32} (hw : w = true) (h : RMk B n a r t w k x) (hk : k < 3) (hs : sgnN B n t = 33) : RMk B n a r (t + 1) w (k + 1) x := by
  refine ⟨fun q => (by rw [hw] at q; cases q), fun _ => ?_⟩
  obtain ⟨hl, hS, hx, hc⟩ := h.2 hw
  have hn : t < n := by
    by_cases c : t < n
    · exact c
    · rw [sgn_out c] at hs; exact absurd hs (by decide)
  rw [sgn_in hn] at hs
  obtain ⟨g1, g2, g3, -⟩ := rl_ge hl (by omega)
  have e : sg B (t + 1) = k + 5 := by
    rcases hS with ⟨s1, s2⟩ | ⟨s1, s2⟩
    · have := g3 s1
      rw [sg_s, s1, stp_3, hs, if_neg (by decide)]
      unfold spv
      rw [if_neg (by decide), if_pos ⟨rfl, by decide, by decide⟩]; omega
    · have := g2 s1
      rw [sg_s, stp_4 s1 s2, hs]
      unfold spv
      rw [if_neg (by decide), if_pos ⟨rfl, s1, by omega⟩]; omega
  have eb : B (a + 2 + (t - (a + 2))) = 33 := by rw [show a + 2 + (t - (a + 2)) = t by omega]; exact hs
  rw [show t + 1 - (a + 2) = (t - (a + 2)) + 1 by omega, vl_t eb, sc_t eb, ← hc]
  exact ⟨hl.go hn (by omega) (by omega), Or.inr ⟨by omega, by omega⟩, hx, rfl⟩
/-- the row is read -/
def RE (B : Nat → Nat) (n a r t : Nat) (w : Bool) (k : Nat) (x : Int32) : Prop := (w = false → badP B n t) ∧ (w = true → wlP B n a r t ∧ 3 ≤ sg B t ∧ sg B t < 8 ∧ (t < n → ¬ B t = 44 → sg B (t + 1) = 8) ∧ x = nI (vlu B (a + 2) (t - (a + 2))) ∧ k = scu B (a + 2) (t - (a + 2)))
theorem re_bad {B : Nat → Nat} {n a r t k : Nat} {w : Bool} {x : Int32} (hw : w = false) (h : RMk B n a r t w k x) : RE B n a r t w k x := ⟨h.1, fun q => (by rw [hw] at q; cases q)⟩
theorem re_ok {B : Nat → Nat} {n a r t k : Nat} {w : Bool} {x : Int32} (hw : w = true) (h : RMk B n a r t w k x) (hd : 3 ≤ k ∨ ¬ sgnN B n t = 33) : RE B n a r t w k x := by
  refine ⟨fun q => (by rw [hw] at q; cases q), fun _ => ?_⟩
  obtain ⟨hl, hS, hx, hc⟩ := h.2 hw
  obtain ⟨g1, g2, g3, -⟩ := rl_ge hl (by omega)
  refine ⟨hl, by omega, by omega, fun hn h44 => ?_, hx, hc⟩
  rw [sgn_in hn] at hd
  rcases hS with ⟨s1, s2⟩ | ⟨s1, s2⟩
  · have := g3 s1
    rw [sg_s, s1, stp_3, if_neg (by rw [s2 hn]; decide)]
    unfold spv
    rw [if_neg h44, if_neg (by omega)]
  · have := g2 s1
    rw [sg_s, stp_4 s1 s2]
    unfold spv
    rw [if_neg h44, if_neg (by omega)]
/-- what a row's reading leaves -/
def RRow (B : Nat → Nat) (n a r : Nat) (v : Nat → Int32) (g : Nat → Int32) (v' : Nat → Int32) (g' : Nat → Int32) (t : Nat) (w : Bool) : Prop := (v' 3 = nI t) ∧ (v' 4 = bI w) ∧ (v' 5 = nI (if w = true then r + 1 else r)) ∧ (v' 0 = v 0) ∧ (v' 1 = v 1) ∧ (v' 2 = v 2) ∧ (∀ j, j < 4 * r → g' j = g j) ∧ (w = false → badP B n t) ∧ (w = true → wlP B n a r t ∧ 3 ≤ sg B t ∧ sg B t < 8 ∧ (t < n → ¬ B t = 44 → sg B (t + 1) = 8) ∧ ∀ q, q < 4 → g' (4 * r + q) = nI (prtV B a t q))
theorem RRow.h3 {B : Nat → Nat} {n a r : Nat} {v : Nat → Int32} {g : Nat → Int32} {v' : Nat → Int32} {g' : Nat → Int32} {t : Nat} {w : Bool} (h : RRow B n a r v g v' g' t w) : v' 3 = nI t := h.1
theorem RRow.h4 {B : Nat → Nat} {n a r : Nat} {v : Nat → Int32} {g : Nat → Int32} {v' : Nat → Int32} {g' : Nat → Int32} {t : Nat} {w : Bool} (h : RRow B n a r v g v' g' t w) : v' 4 = bI w := h.2.1
theorem RRow.h5 {B : Nat → Nat} {n a r : Nat} {v : Nat → Int32} {g : Nat → Int32} {v' : Nat → Int32} {g' : Nat → Int32} {t : Nat} {w : Bool} (h : RRow B n a r v g v' g' t w) : v' 5 = nI (if w = true then r + 1 else r) := h.2.2.1
theorem RRow.h0 {B : Nat → Nat} {n a r : Nat} {v : Nat → Int32} {g : Nat → Int32} {v' : Nat → Int32} {g' : Nat → Int32} {t : Nat} {w : Bool} (h : RRow B n a r v g v' g' t w) : v' 0 = v 0 := h.2.2.2.1
theorem RRow.h1 {B : Nat → Nat} {n a r : Nat} {v : Nat → Int32} {g : Nat → Int32} {v' : Nat → Int32} {g' : Nat → Int32} {t : Nat} {w : Bool} (h : RRow B n a r v g v' g' t w) : v' 1 = v 1 := h.2.2.2.2.1
theorem RRow.h2 {B : Nat → Nat} {n a r : Nat} {v : Nat → Int32} {g : Nat → Int32} {v' : Nat → Int32} {g' : Nat → Int32} {t : Nat} {w : Bool} (h : RRow B n a r v g v' g' t w) : v' 2 = v 2 := h.2.2.2.2.2.1
theorem RRow.hg {B : Nat → Nat} {n a r : Nat} {v : Nat → Int32} {g : Nat → Int32} {v' : Nat → Int32} {g' : Nat → Int32} {t : Nat} {w : Bool} (h : RRow B n a r v g v' g' t w) : ∀ j, j < 4 * r → g' j = g j := h.2.2.2.2.2.2.1
theorem RRow.hb {B : Nat → Nat} {n a r : Nat} {v : Nat → Int32} {g : Nat → Int32} {v' : Nat → Int32} {g' : Nat → Int32} {t : Nat} {w : Bool} (h : RRow B n a r v g v' g' t w) : w = false → badP B n t := h.2.2.2.2.2.2.2.1
theorem RRow.hw {B : Nat → Nat} {n a r : Nat} {v : Nat → Int32} {g : Nat → Int32} {v' : Nat → Int32} {g' : Nat → Int32} {t : Nat} {w : Bool} (h : RRow B n a r v g v' g' t w) : w = true → wlP B n a r t ∧ 3 ≤ sg B t ∧ sg B t < 8 ∧ (t < n → ¬ B t = 44 → sg B (t + 1) = 8) ∧ ∀ q, q < 4 → g' (4 * r + q) = nI (prtV B a t q) := h.2.2.2.2.2.2.2.2
def RG (B : Nat → Nat) (a r : Nat) (w : Bool) (g g3 : Nat → Int32) : Prop := (∀ j, j < 4 * r → g3 j = g j) ∧ (w = true → g3 (4 * r) = nI (B a - 48) ∧ g3 (4 * r + 1) = nI (plN (B (a + 1))))
theorem RE.end {B : Nat → Nat} {n a r t k : Nat} {w : Bool} {x : Int32} {v v' g g3 : Nat → Int32} (h : RE B n a r t w k x) (hg : RG B a r w g g3) (h3 : v' 3 = nI t) (h4 : v' 4 = bI w) (h5 : v' 5 = nI (if w = true then r + 1 else r)) (h0 : v' 0 = v 0) (h1 : v' 1 = v 1) (h2 : v' 2 = v 2) :
    RRow B n a r v g v' (upd (upd g3 (4 * r + 2) x) (4 * r + 3) (nI k)) t w := by
  refine ⟨h3, h4, h5, h0, h1, h2, fun j hj => ?_, h.1, fun hw => ?_⟩
  · rw [up_f (by omega), up_f (by omega)]; exact hg.1 j hj
  · obtain ⟨hl, s1, s2, s3, hx, hc⟩ := h.2 hw
    obtain ⟨q1, q2⟩ := hg.2 hw
    refine ⟨hl, s1, s2, s3, fun q hq => ?_⟩
    rcases (by omega : q = 0 ∨ q = 1 ∨ q = 2 ∨ q = 3) with rfl | rfl | rfl | rfl
    · rw [up_f (by omega), up_f (by omega)]; exact q1
    · rw [up_f (by omega), up_f (by omega)]; exact q2
    · rw [up_f (by omega), up_t]; exact hx
    · rw [up_t, hc]; rfl
theorem plM_n {x : Nat} (h : plN x < 4) : plM x = plN x := by
  unfold plN at h ⊢
  unfold plM
  by_cases c1 : x = 110
  · rw [if_pos c1, if_pos c1]
  · rw [if_neg c1] at h ⊢
    rw [if_neg c1]
    by_cases c2 : x = 101
    · rw [if_pos c2, if_pos c2]
    · rw [if_neg c2] at h ⊢
      rw [if_neg c2]
      by_cases c3 : x = 115
      · rw [if_pos c3, if_pos c3]
      · rw [if_neg c3] at h ⊢
        rw [if_neg c3]
        by_cases c4 : x = 119
        · rw [if_pos c4]
        · rw [if_neg c4] at h; omega
/-- between rows -/
def RAL (B : Nat → Nat) (n : Nat) (v5 : Int32) (gg : Nat → Int32) (t : Nat) (w : Bool) : Prop := (w = false → badP B n t) ∧ (w = true → t ≤ n ∧ 3 ≤ sg B t ∧ sg B t < 8 ∧ (t < n → ¬ B t = 44 → sg B (t + 1) = 8) ∧ 4 * prt B n t + 3 ≤ t ∧ v5 = nI (prt B n t + 1) ∧
  (∀ j q, j < prt B n t → q < 4 → gg (4 * j + q) = nI (tab B n (n + 1) j q)) ∧ ∀ q, q < 4 → gg (4 * prt B n t + q) = nI (prtV B (sta B n t) t q))
theorem RAL.le {B : Nat → Nat} {n t : Nat} {w : Bool} {v5 : Int32} {gg : Nat → Int32} (h : RAL B n v5 gg t w) : t ≤ n := by
  cases w with
  | false => exact (h.1 rfl).1
  | true => exact (h.2 rfl).1
theorem ral_0 {B : Nat → Nat} {n t : Nat} {w : Bool} {v g v' g' : Nat → Int32} (h : RRow B n 0 0 v g v' g' t w) : RAL B n (v' 5) g' t w := by
  refine ⟨h.hb, fun hw => ?_⟩
  obtain ⟨hl, s1, s2, s3, s4⟩ := h.hw hw
  have h5 := h.h5
  rw [if_pos hw] at h5
  have hp : prt B n t = 0 := hl.2.2.1
  have hs : sta B n t = 0 := hl.2.1
  have := (rl_ge hl s1).1
  exact ⟨hl.1, s1, s2, s3, by omega, by rw [hp]; exact h5, fun j q hj => by omega, fun q hq => by rw [hp, hs]; exact s4 q hq⟩
theorem ral_c {B : Nat → Nat} {n t : Nat} {w : Bool} {v5 : Int32} {gg : Nat → Int32} (hw : w = true) (h : RAL B n v5 gg t w) (ht : t < n) (h44 : B t = 44) : wlP B n (t + 1) (prt B n t + 1) (t + 1) ∧ sg B (t + 1) = 0 ∧ 4 * (prt B n t + 1) ≤ t + 1 ∧ v5 = nI (prt B n t + 1) := by
  obtain ⟨a1, a2, a3, a4, a5, a6, a7, a8⟩ := h.2 hw
  have hc : cmQ B n t = true := by unfold cmQ; rw [decide_eq_true h44, Bool.or_true]
  have e : sg B (t + 1) = 0 := by
    rw [sg_s, h44]
    rcases (by omega : sg B t = 3 ∨ (4 ≤ sg B t ∧ sg B t < 8)) with s | s
    · rw [s]; rfl
    · rw [stp_4 s.1 s.2]; rfl
  exact ⟨⟨by omega, sta_t hc, prt_t hc, by omega⟩, e, by omega, a6⟩
theorem ral_s {B : Nat → Nat} {n t t' : Nat} {w w' : Bool} {v5 : Int32} {gg v v' g' : Nat → Int32} (hw : w = true) (h : RAL B n v5 gg t w) (ht : t < n) (h44 : B t = 44) (hR : RRow B n (t + 1) (prt B n t + 1) v gg v' g' t' w') : RAL B n (v' 5) g' t' w' := by
  refine ⟨hR.hb, fun hw' => ?_⟩
  obtain ⟨a1, a2, a3, a4, a5, a6, a7, a8⟩ := h.2 hw
  obtain ⟨hl, s1, s2, s3, s4⟩ := hR.hw hw'
  have h5 := hR.h5
  rw [if_pos hw'] at h5
  have hp : prt B n t' = prt B n t + 1 := hl.2.2.1
  have hs : sta B n t' = t + 1 := hl.2.1
  have := (rl_ge hl s1).1
  have hc : cmQ B n t = true := by unfold cmQ; rw [decide_eq_true h44, Bool.or_true]
  refine ⟨hl.1, s1, s2, s3, by omega, by rw [hp]; exact h5, fun j q hj hq => ?_, fun q hq => by rw [hp, hs]; exact s4 q hq⟩
  rw [hR.hg _ (by omega)]
  by_cases c : j = prt B n t
  · rw [c, tab_at hc (by omega)]; exact a8 q hq
  · exact a7 j q (by omega) hq
theorem ral_x {B : Nat → Nat} {n t : Nat} {w : Bool} {v5 v5' : Int32} {gg gg' : Nat → Int32} (hw : w = true) (h : RAL B n v5 gg t w) (ht : t < n) (h44 : ¬ B t = 44) : RAL B n v5' gg' t false := by
  obtain ⟨a1, a2, a3, a4, a5, a6, a7, a8⟩ := h.2 hw
  exact ⟨fun _ => ⟨a1, by omega, fun _ => a4 ht h44, fun q => by omega⟩, fun q => by cases q⟩
/-- what the whole reading leaves -/
def RAll (B : Nat → Nat) (n : Nat) (v : Nat → Int32) (v' : Nat → Int32) (g' : Nat → Int32) : Prop := (v' 3 = nI (errN B n)) ∧ (v' 4 = bI (cplQ B n)) ∧ (v' 0 = v 0) ∧ (v' 1 = v 1) ∧ (v' 2 = v 2) ∧ (cplQ B n = true → v' 5 = nI (prt B n (n + 1)) ∧ ∀ j q, j < prt B n (n + 1) → q < 4 → g' (4 * j + q) = nI (tab B n (n + 1) j q))
theorem RAll.h3 {B : Nat → Nat} {n : Nat} {v : Nat → Int32} {v' : Nat → Int32} {g' : Nat → Int32} (h : RAll B n v v' g') : v' 3 = nI (errN B n) := h.1
theorem RAll.h4 {B : Nat → Nat} {n : Nat} {v : Nat → Int32} {v' : Nat → Int32} {g' : Nat → Int32} (h : RAll B n v v' g') : v' 4 = bI (cplQ B n) := h.2.1
theorem RAll.h0 {B : Nat → Nat} {n : Nat} {v : Nat → Int32} {v' : Nat → Int32} {g' : Nat → Int32} (h : RAll B n v v' g') : v' 0 = v 0 := h.2.2.1
theorem RAll.h1 {B : Nat → Nat} {n : Nat} {v : Nat → Int32} {v' : Nat → Int32} {g' : Nat → Int32} (h : RAll B n v v' g') : v' 1 = v 1 := h.2.2.2.1
theorem RAll.h2 {B : Nat → Nat} {n : Nat} {v : Nat → Int32} {v' : Nat → Int32} {g' : Nat → Int32} (h : RAll B n v v' g') : v' 2 = v 2 := h.2.2.2.2.1
theorem RAll.hw {B : Nat → Nat} {n : Nat} {v : Nat → Int32} {v' : Nat → Int32} {g' : Nat → Int32} (h : RAll B n v v' g') : cplQ B n = true → v' 5 = nI (prt B n (n + 1)) ∧ ∀ j q, j < prt B n (n + 1) → q < 4 → g' (4 * j + q) = nI (tab B n (n + 1) j q) := h.2.2.2.2.2
theorem RAL.end {B : Nat → Nat} {n t : Nat} {w : Bool} {v v' g' : Nat → Int32} (h : RAL B n (v' 5) g' t w) (h3 : v' 3 = nI t) (h4 : v' 4 = bI w) (h0 : v' 0 = v 0) (h1 : v' 1 = v 1) (h2 : v' 2 = v 2) (hd : w = false ∨ ¬ t < n) : RAll B n v v' g' := by
  cases w with
  | false =>
    obtain ⟨b1, b2, b3, b4⟩ := h.1 rfl
    have e : errN B n = t := er_at b1 b2 b3
    have ec : cplQ B n = false := by
      refine Bool.eq_false_iff.mpr (fun q => ?_)
      have c := cpl_iff.mp q
      by_cases d : t < n
      · have := sg_bad (b3 d) (n := n) (by omega); omega
      · have e2 : t = n := by omega
        have := b4 e2
        rw [e2] at this
        omega
    exact ⟨by rw [e]; exact h3, by rw [ec]; exact h4, h0, h1, h2, fun q => by rw [ec] at q; cases q⟩
  | true =>
    obtain ⟨a1, a2, a3, a4, a5, a6, a7, a8⟩ := h.2 rfl
    have ht : t = n := by rcases hd with hd | hd; cases hd; omega
    subst ht
    have e : errN B t = t := er_at a1 (by omega) (fun q => absurd q (by omega))
    have ec : cplQ B t = true := cpl_iff.mpr ⟨a2, a3⟩
    have hc : cmQ B t t = true := by unfold cmQ; rw [decide_eq_true rfl, Bool.true_or]
    refine ⟨by rw [e]; exact h3, by rw [ec]; exact h4, h0, h1, h2, fun _ => ⟨by rw [prt_t hc]; exact a6, fun j q hj hq => ?_⟩⟩
    rw [prt_t hc] at hj
    by_cases c : j = prt B t t
    · rw [c, tab_at hc (Nat.le_refl _)]; exact a8 q hq
    · exact a7 j q (by omega) hq
theorem prt_le (B : Nat → Nat) (n : Nat) : ∀ k, prt B n k ≤ k
  | 0 => Nat.le_refl _
  | k + 1 => by
    have := prt_le B n k
    cases q : cmQ B n k with
    | true => rw [prt_t q]; omega
    | false => rw [prt_f q]; omega
theorem addN_I {σ : Nat → Nat} (hI : Inv σ) {T : Nat → Nat → Nat} : ∀ {k : Nat}, σ 0 + k ≤ 16 → (∀ j, j < k → T j 0 < 5 ∧ T j 1 < 4 ∧ T j 2 < 100 ∧ T j 3 < 4) → Inv (addN σ T k)
  | 0, _, _ => hI
  | k + 1, h, hT => by
    have h1 := addN_I hI (T := T) (k := k) (by omega) (fun j hj => hT j (by omega))
    have e0 := addN_0 σ T k
    have t := hT k (by omega)
    exact row_I (σ := addN σ T k) h1 (by omega) t.1 t.2.1 t.2.2.1 t.2.2.2
theorem sgn_lt {B : Nat → Nat} {n : Nat} {g : Nat → Int32} (h : BR n B g) (t : Nat) : sgnN B n t < 127 := by
  unfold sgnN; split
  · exact (h.2 _ (by assumption)).2.2
  · decide
theorem sgn_dig {B : Nat → Nat} {n t : Nat} (h : digQ (sgnN B n t) = true) : t < n := by
  by_cases c : t < n
  · exact c
  · rw [sgn_out c] at h; exact absurd h (by decide)
theorem rq_v {B : Nat → Nat} {n a r t2 t3 : Nat} {w2 w3 : Bool} (hq : RQ B n a r (S3 B a) t3 w3) (hx : w3 = true → w2 = true ∧ t3 = t2 + 1 ∧ wlP B n a r t2 ∧ S2 B t2 ∧ t2 < n) (hw : w3 = true) : nI (sgnN B n t2) - nI 48 = nI (B (a + 2) - 48) := by
  obtain ⟨-, e, -, -, hl⟩ := hx hw
  obtain ⟨-, e2, hd, -⟩ := hq.2 hw
  have d := digQ_t.mp hd
  rw [sgn_in hl, show t2 = a + 2 by omega]
  exact pk_sub d.1
theorem rq_lt {B : Nat → Nat} {n t : Nat} {g : Nat → Int32} (hB : BR n B g) (h : digQ (sgnN B n t) = true) : B t < 127 := (hB.2 _ (sgn_dig h)).2.2
theorem rq_0 {B : Nat → Nat} {n a r t3 : Nat} {w3 : Bool} (hq : RQ B n a r (S3 B a) t3 w3) (hw : w3 = true) (c : nI (B (a + 2) - 48) ≤ 0) : B (a + 2) = 48 := by
  obtain ⟨-, -, hd, -⟩ := hq.2 hw
  have d := digQ_t.mp hd
  have := (nI_leI (a := B (a + 2) - 48) (b := 0) (by omega) (by omega)).mp c
  omega
theorem rq_1 {B : Nat → Nat} {a : Nat} (c : ¬ nI (B (a + 2) - 48) ≤ 0) : ¬ B (a + 2) = 48 := fun h => c (by rw [h]; decide)
theorem rg_in {B : Nat → Nat} {n a r t1 t2 t3 : Nat} {w w1 w2 w3 : Bool} {g : Nat → Int32} (hf : w = true → w3 = true) (hx1 : w1 = true → true = true ∧ t1 = a + 1 ∧ wlP B n a r a ∧ S0 B a ∧ a < n) (hx2 : w2 = true → w1 = true ∧ t2 = t1 + 1 ∧ wlP B n a r t1 ∧ S1 B t1 ∧ t1 < n) (hx3 : w3 = true → w2 = true ∧ t3 = t2 + 1 ∧ wlP B n a r t2 ∧ S2 B t2 ∧ t2 < n) (hq3 : RQ B n a r (S3 B a) t3 w3) : RG B a r w g (upd (upd g (4 * r) (nI (sgnN B n a) - nI 48)) (4 * r + 1) (nI (plM (sgnN B n t1)))) := by
  refine ⟨fun j hj => by rw [up_f (by omega), up_f (by omega)], fun hw => ?_⟩
  have h3 := hf hw
  obtain ⟨h2, e3, -, -, l3⟩ := hx3 h3
  obtain ⟨h1, e2, -, -, l2⟩ := hx2 h2
  obtain ⟨-, e1, -, -, l1⟩ := hx1 h1
  obtain ⟨hl, -, -, hS⟩ := hq3.2 h3
  obtain ⟨-, -, -, b1, b2, b3⟩ := rl_ge hl (by omega)
  rw [up_f (by omega), up_t, up_t, sgn_in l1, sgn_in l2, e1, plM_n b3]
  exact ⟨pk_sub b1, rfl⟩
theorem wl_0 (B : Nat → Nat) (n : Nat) : wlP B n 0 0 0 := ⟨Nat.zero_le _, rfl, rfl, (show ¬ (0 : Nat) = 8 by decide)⟩
theorem rr_ge {B : Nat → Nat} {n a r t : Nat} {w : Bool} {v g v' g' : Nat → Int32} (h : RRow B n a r v g v' g' t w) (hw : w = true) : a + 3 ≤ t := (rl_ge (h.hw hw).1 (h.hw hw).2.1).1
abbrev rm_X9_readsRow : Room := { frames := 2, cells := 0, slots := 0, locals := 44 }
theorem k_X9_readsRow : Cal yX9_readsRow wsX9_readsRow rm_X9_readsRow cX9_readsRow 4 none 0 0 0 := ⟨⟨_, rfl⟩, rfl, rfl, by decide +kernel⟩
set_option maxHeartbeats 4000000 in
set_option maxRecDepth 100000 in
theorem m_X9_readsRow (l : Launch) (Γ : Gm) (sz : Nat) (a : Nat → Nat) (v : Nat → Int32) (hs : Int64) (g : Nat → Nat → Int32) (nb : Nat) (bb : Nat → Nat) (h2 : v 2 = nI nb) (hBR : BR nb bb (g 2)) (ta rm : Nat) (hwl : wlP bb nb ta rm ta) (hs0 : sg bb ta = 0) (h4r : 4 * rm ≤ ta) (h3 : v 3 = nI ta) (h4 : v 4 = bI true) (h5 : v 5 = nI rm) : MWv (S := WtM) l yX9_readsRow wsX9_readsRow rm_X9_readsRow Γ sz (wMd Γ a v hs g) [.ref (a 0)] (fun u => (∃ t w, RRow bb nb ta rm v (g 3) u.1 (u.2.2 3) t w) ∧ u.2.1 = hs ∧ u.2.2 0 = g 0 ∧ u.2.2 1 = g 1 ∧ u.2.2 2 = g 2) (fun u => (wMd Γ a u.1 u.2.1 u.2.2)) 0 0 := by
  refine mW (cc := cX9_readsRow) (maxL := 4) (ret := none) (own := RX9) (by decide) rfl rfl (Nat.le_of_ble_eq_true rfl) ?_
  intro p e s m args below meth c S hrt hlk hin hsz hK hP hD hA hS ls hl
  subst hsz
  generalize hAe : va_A (wMd Γ a v hs g) s.heap.size = A at hD hA hS ⊢
  obtain ⟨hx, hb, hml, hown, hts⟩ := id S
  have hn6 := hBR.1
  have hta := hwl.1
  have hq_0 : RQ bb nb ta rm (S0 bb) ta true := ⟨fun q => (by cases q), fun _ => ⟨hwl, hs0⟩⟩
  have h2v0 : v 2 = nI nb := h2
  have hl : lv_has ls 4 [(0, .ref (a 0))] := hl
  have L_114 : ∀ (vv : Nat → Int32) (t : Nat) (w : Bool) (g3 : Nat → Int32) (x2 : Int32) (k : Nat) (h2v : vv 2 = nI nb) (h3v : vv 3 = nI t) (h4v : vv 4 = bI w) (h5v : vv 5 = nI rm) (h0v : vv 0 = v 0) (h1v : vv 1 = v 1) (hg3 : RG bb ta rm w (g 3) g3) (hqe : RE bb nb ta rm t w k x2), ∀ (H : Heap) (locs : List Loc), gP Γ [(a 0, .inr (9, [.int (vv 0), .ref (a 1), .ref (a 2), .int (vv 1), .ref (a 3), .int (vv 2), .int (vv 3), .int (vv 4), .ref (a 4), .int (vv 5), .long hs])), (a 1, .inl (Γ.2.1, 130, .inl (g 0))), (a 2, .inl (Γ.2.1, 780, .inl (g 1))), (a 3, .inl (Γ.2.1, 60, .inl (g 2))), (a 4, .inl (Γ.2.1, 88, .inl g3))] H → va_D A [(a 0, .inr (9, [.int (vv 0), .ref (a 1), .ref (a 2), .int (vv 1), .ref (a 3), .int (vv 2), .int (vv 3), .int (vv 4), .ref (a 4), .int (vv 5), .long hs])), (a 1, .inl (Γ.2.1, 130, .inl (g 0))), (a 2, .inl (Γ.2.1, 780, .inl (g 1))), (a 3, .inl (Γ.2.1, 60, .inl (g 2))), (a 4, .inl (Γ.2.1, 88, .inl g3))] → va_S A s.heap H locs → ∀ ls : Array Slot, lv_has ls 4 [(0, .ref (a 0)), (1, .int (nI (4 * rm))), (2, .int x2), (3, .int (nI k))] → W p l e rm_X9_readsRow s m args below meth c H locs 0 0 (MQ below (va_Qv (S := WtM) (fun u => (∃ t w, RRow bb nb ta rm v (g 3) u.1 (u.2.2 3) t w) ∧ u.2.1 = hs ∧ u.2.2 0 = g 0 ∧ u.2.2 1 = g 1 ∧ u.2.2 2 = g 2) (fun u t9 => wd Γ A ((wMd Γ a u.1 u.2.1 u.2.2)) t9) A) args s 0 0 A) (F0 m 114 ls []) := by
    intro vv t w g3 x2 k h2v h3v h4v h5v h0v h1v hg3 hqe H locs hP hD hS ls hl
    refine lv_aload_n hx hb dX9_readsRow_114 rfl (lv_at hl 0 rfl) ?_
    refine va_get (D := Γ.1) (ci := 9) (v := .ref (a 4)) (C := RX9) (T := TX9) (N := 11) hx hb hts (by decide +kernel) hown hK hP 0 rfl rfl 8 (by decide) (hts (.fieldLink RX9 19 "RowVeilsModel" "read" "[I") (by decide +kernel)) (fun _ h9 => h9) rfl dX9_readsRow_115 ?_
    refine lv_iload_n hx hb dX9_readsRow_118 rfl (lv_at hl 1 rfl) ?_
    refine lv_iconst (v := nI 2) hx hb dX9_readsRow_119 (by decide) ?_
    refine lv_iadd hx hb dX9_readsRow_120 ?_
    refine asi (z := nI ((4 * rm) + 2)) (nI_add _ _) ?_
    refine lv_iload_n hx hb dX9_readsRow_121 rfl (lv_at hl 2 rfl) ?_
    refine va_iast hx hb hK hP hD hS 4 0 rfl rfl (vp_in_nI (by omega) (by omega)) dX9_readsRow_122 (fun H locs hP hD hS => ?_)
    have ec : (nI ((4 * rm) + 2)).toNatClampNeg = ((4 * rm) + 2) := nI_clamp (by omega)
    rw [ec] at hP hD
    clear ec
    have hP : gP Γ [(a 0, .inr (9, [.int (vv 0), .ref (a 1), .ref (a 2), .int (vv 1), .ref (a 3), .int (vv 2), .int (vv 3), .int (vv 4), .ref (a 4), .int (vv 5), .long hs])), (a 1, .inl (Γ.2.1, 130, .inl (g 0))), (a 2, .inl (Γ.2.1, 780, .inl (g 1))), (a 3, .inl (Γ.2.1, 60, .inl (g 2))), (a 4, .inl (Γ.2.1, 88, .inl (upd g3 ((4 * rm) + 2) x2)))] H := hP
    have hD : va_D A [(a 0, .inr (9, [.int (vv 0), .ref (a 1), .ref (a 2), .int (vv 1), .ref (a 3), .int (vv 2), .int (vv 3), .int (vv 4), .ref (a 4), .int (vv 5), .long hs])), (a 1, .inl (Γ.2.1, 130, .inl (g 0))), (a 2, .inl (Γ.2.1, 780, .inl (g 1))), (a 3, .inl (Γ.2.1, 60, .inl (g 2))), (a 4, .inl (Γ.2.1, 88, .inl (upd g3 ((4 * rm) + 2) x2)))] := hD
    refine lv_aload_n hx hb dX9_readsRow_123 rfl (lv_at hl 0 rfl) ?_
    refine va_get (D := Γ.1) (ci := 9) (v := .ref (a 4)) (C := RX9) (T := TX9) (N := 11) hx hb hts (by decide +kernel) hown hK hP 0 rfl rfl 8 (by decide) (hts (.fieldLink RX9 19 "RowVeilsModel" "read" "[I") (by decide +kernel)) (fun _ h9 => h9) rfl dX9_readsRow_124 ?_
    refine lv_iload_n hx hb dX9_readsRow_127 rfl (lv_at hl 1 rfl) ?_
    refine lv_iconst (v := nI 3) hx hb dX9_readsRow_128 (by decide) ?_
    refine lv_iadd hx hb dX9_readsRow_129 ?_
    refine asi (z := nI ((4 * rm) + 3)) (nI_add _ _) ?_
    refine lv_iload_n hx hb dX9_readsRow_130 rfl (lv_at hl 3 rfl) ?_
    refine va_iast hx hb hK hP hD hS 4 0 rfl rfl (vp_in_nI (by omega) (by omega)) dX9_readsRow_131 (fun H locs hP hD hS => ?_)
    have ec : (nI ((4 * rm) + 3)).toNatClampNeg = ((4 * rm) + 3) := nI_clamp (by omega)
    rw [ec] at hP hD
    clear ec
    have hP : gP Γ [(a 0, .inr (9, [.int (vv 0), .ref (a 1), .ref (a 2), .int (vv 1), .ref (a 3), .int (vv 2), .int (vv 3), .int (vv 4), .ref (a 4), .int (vv 5), .long hs])), (a 1, .inl (Γ.2.1, 130, .inl (g 0))), (a 2, .inl (Γ.2.1, 780, .inl (g 1))), (a 3, .inl (Γ.2.1, 60, .inl (g 2))), (a 4, .inl (Γ.2.1, 88, .inl (upd (upd g3 ((4 * rm) + 2) x2) ((4 * rm) + 3) (nI k))))] H := hP
    have hD : va_D A [(a 0, .inr (9, [.int (vv 0), .ref (a 1), .ref (a 2), .int (vv 1), .ref (a 3), .int (vv 2), .int (vv 3), .int (vv 4), .ref (a 4), .int (vv 5), .long hs])), (a 1, .inl (Γ.2.1, 130, .inl (g 0))), (a 2, .inl (Γ.2.1, 780, .inl (g 1))), (a 3, .inl (Γ.2.1, 60, .inl (g 2))), (a 4, .inl (Γ.2.1, 88, .inl (upd (upd g3 ((4 * rm) + 2) x2) ((4 * rm) + 3) (nI k))))] := hD
    refine lv_aload_n hx hb dX9_readsRow_132 rfl (lv_at hl 0 rfl) ?_
    refine lv_dup hx hb dX9_readsRow_133 rfl ?_
    refine va_get (D := Γ.1) (ci := 9) (v := .int (vv 5)) (C := RX9) (T := TX9) (N := 11) hx hb hts (by decide +kernel) hown hK hP 0 rfl rfl 9 (by decide) (hts (.fieldLink RX9 131 "RowVeilsModel" "readMany" "I") (by decide +kernel)) (fun _ h9 => h9) rfl dX9_readsRow_134 ?_
    refine asi (z := nI rm) (h5v) ?_
    refine lv_aload_n hx hb dX9_readsRow_137 rfl (lv_at hl 0 rfl) ?_
    refine va_get (D := Γ.1) (ci := 9) (v := .int (vv 4)) (C := RX9) (T := TX9) (N := 11) hx hb hts (by decide +kernel) hown hK hP 0 rfl rfl 7 (by decide) (hts (.fieldLink RX9 123 "RowVeilsModel" "isWell" "Z") (by decide +kernel)) (fun _ h9 => h9) rfl dX9_readsRow_138 ?_
    refine asi (z := bI w) (h4v) ?_
    refine lv_if_eq (tgt := 148) hx hb dX9_readsRow_141 (by decide) (fun c_141 => ?_) (fun c_141 => ?_)
    · have n_141 := bI_z.mp c_141
      refine lv_iconst (v := nI 0) hx hb dX9_readsRow_148 (by decide) ?_
      refine lv_iadd hx hb dX9_readsRow_149 ?_
      refine asi (z := nI (rm + 0)) (nI_add _ _) ?_
      refine va_put (D := Γ.1) (ci := 9) (v := .int (nI (rm + 0))) (ty := .int) (C := RX9) (T := TX9) (N := 11) hx hb hts (by decide +kernel) tyX9 tyX9_ok nmX9 hown hK hP hD hS 0 rfl rfl 9 (by decide) (hts (.fieldLink RX9 131 "RowVeilsModel" "readMany" "I") (by decide +kernel)) (fun _ h9 => h9) rfl (by decide +kernel) rfl rfl (Nat.le_of_ble_eq_true rfl) dX9_readsRow_150 (fun H locs hP hD hS => ?_)
      have hP : gP Γ [(a 0, .inr (9, [.int (vv 0), .ref (a 1), .ref (a 2), .int (vv 1), .ref (a 3), .int (vv 2), .int (vv 3), .int (vv 4), .ref (a 4), .int (nI (rm + 0)), .long hs])), (a 1, .inl (Γ.2.1, 130, .inl (g 0))), (a 2, .inl (Γ.2.1, 780, .inl (g 1))), (a 3, .inl (Γ.2.1, 60, .inl (g 2))), (a 4, .inl (Γ.2.1, 88, .inl (upd (upd g3 ((4 * rm) + 2) x2) ((4 * rm) + 3) (nI k))))] H := hP
      have hD : va_D A [(a 0, .inr (9, [.int (vv 0), .ref (a 1), .ref (a 2), .int (vv 1), .ref (a 3), .int (vv 2), .int (vv 3), .int (vv 4), .ref (a 4), .int (nI (rm + 0)), .long hs])), (a 1, .inl (Γ.2.1, 130, .inl (g 0))), (a 2, .inl (Γ.2.1, 780, .inl (g 1))), (a 3, .inl (Γ.2.1, 60, .inl (g 2))), (a 4, .inl (Γ.2.1, 88, .inl (upd (upd g3 ((4 * rm) + 2) x2) ((4 * rm) + 3) (nI k))))] := hD
      exact W.vret hx hb hrt (fun t9 ht9 hW9 => ⟨⟨(va_up vv 5 (nI (rm + 0)), hs, va_up g 3 (upd (upd g3 ((4 * rm) + 2) x2) ((4 * rm) + 3) (nI k))), rfl, ⟨⟨t, w, hqe.end hg3 h3v h4v (by rw [n_141]; rfl) h0v h1v (h2v.trans h2.symm)⟩, rfl, rfl, rfl, rfl⟩, wd_end hK hP hD [0, 1, 2, 3, 4] (by decide) rfl t9 ht9 hW9⟩, hS.F ht9⟩) hS.2.2 dX9_readsRow_153 hlk
    · have n_141 := bI_nz.mp c_141
      refine lv_iconst (v := nI 1) hx hb dX9_readsRow_144 (by decide) ?_
      refine lv_goto (tgt := 149) hx hb dX9_readsRow_145 (by decide) ?_
      refine lv_iadd hx hb dX9_readsRow_149 ?_
      refine asi (z := nI (rm + 1)) (nI_add _ _) ?_
      refine va_put (D := Γ.1) (ci := 9) (v := .int (nI (rm + 1))) (ty := .int) (C := RX9) (T := TX9) (N := 11) hx hb hts (by decide +kernel) tyX9 tyX9_ok nmX9 hown hK hP hD hS 0 rfl rfl 9 (by decide) (hts (.fieldLink RX9 131 "RowVeilsModel" "readMany" "I") (by decide +kernel)) (fun _ h9 => h9) rfl (by decide +kernel) rfl rfl (Nat.le_of_ble_eq_true rfl) dX9_readsRow_150 (fun H locs hP hD hS => ?_)
      have hP : gP Γ [(a 0, .inr (9, [.int (vv 0), .ref (a 1), .ref (a 2), .int (vv 1), .ref (a 3), .int (vv 2), .int (vv 3), .int (vv 4), .ref (a 4), .int (nI (rm + 1)), .long hs])), (a 1, .inl (Γ.2.1, 130, .inl (g 0))), (a 2, .inl (Γ.2.1, 780, .inl (g 1))), (a 3, .inl (Γ.2.1, 60, .inl (g 2))), (a 4, .inl (Γ.2.1, 88, .inl (upd (upd g3 ((4 * rm) + 2) x2) ((4 * rm) + 3) (nI k))))] H := hP
      have hD : va_D A [(a 0, .inr (9, [.int (vv 0), .ref (a 1), .ref (a 2), .int (vv 1), .ref (a 3), .int (vv 2), .int (vv 3), .int (vv 4), .ref (a 4), .int (nI (rm + 1)), .long hs])), (a 1, .inl (Γ.2.1, 130, .inl (g 0))), (a 2, .inl (Γ.2.1, 780, .inl (g 1))), (a 3, .inl (Γ.2.1, 60, .inl (g 2))), (a 4, .inl (Γ.2.1, 88, .inl (upd (upd g3 ((4 * rm) + 2) x2) ((4 * rm) + 3) (nI k))))] := hD
      exact W.vret hx hb hrt (fun t9 ht9 hW9 => ⟨⟨(va_up vv 5 (nI (rm + 1)), hs, va_up g 3 (upd (upd g3 ((4 * rm) + 2) x2) ((4 * rm) + 3) (nI k))), rfl, ⟨⟨t, w, hqe.end hg3 h3v h4v (by rw [n_141]; rfl) h0v h1v (h2v.trans h2.symm)⟩, rfl, rfl, rfl, rfl⟩, wd_end hK hP hD [0, 1, 2, 3, 4] (by decide) rfl t9 ht9 hW9⟩, hS.F ht9⟩) hS.2.2 dX9_readsRow_153 hlk
  have L_77 : ∀ (fuel : Nat), ∀ (vv : Nat → Int32) (t : Nat) (w : Bool) (g3 : Nat → Int32) (x2 : Int32) (k : Nat) (h2v : vv 2 = nI nb) (h3v : vv 3 = nI t) (h4v : vv 4 = bI w) (h5v : vv 5 = nI rm) (h0v : vv 0 = v 0) (h1v : vv 1 = v 1) (hg3 : RG bb ta rm w (g 3) g3) (hqe : RMk bb nb ta rm t w k x2) (hk : k ≤ 3) (hfk : 3 - k < fuel), ∀ (H : Heap) (locs : List Loc), gP Γ [(a 0, .inr (9, [.int (vv 0), .ref (a 1), .ref (a 2), .int (vv 1), .ref (a 3), .int (vv 2), .int (vv 3), .int (vv 4), .ref (a 4), .int (vv 5), .long hs])), (a 1, .inl (Γ.2.1, 130, .inl (g 0))), (a 2, .inl (Γ.2.1, 780, .inl (g 1))), (a 3, .inl (Γ.2.1, 60, .inl (g 2))), (a 4, .inl (Γ.2.1, 88, .inl g3))] H → va_D A [(a 0, .inr (9, [.int (vv 0), .ref (a 1), .ref (a 2), .int (vv 1), .ref (a 3), .int (vv 2), .int (vv 3), .int (vv 4), .ref (a 4), .int (vv 5), .long hs])), (a 1, .inl (Γ.2.1, 130, .inl (g 0))), (a 2, .inl (Γ.2.1, 780, .inl (g 1))), (a 3, .inl (Γ.2.1, 60, .inl (g 2))), (a 4, .inl (Γ.2.1, 88, .inl g3))] → va_S A s.heap H locs → ∀ ls : Array Slot, lv_has ls 4 [(0, .ref (a 0)), (1, .int (nI (4 * rm))), (2, .int x2), (3, .int (nI k))] → W p l e rm_X9_readsRow s m args below meth c H locs 0 0 (MQ below (va_Qv (S := WtM) (fun u => (∃ t w, RRow bb nb ta rm v (g 3) u.1 (u.2.2 3) t w) ∧ u.2.1 = hs ∧ u.2.2 0 = g 0 ∧ u.2.2 1 = g 1 ∧ u.2.2 2 = g 2) (fun u t9 => wd Γ A ((wMd Γ a u.1 u.2.1 u.2.2)) t9) A) args s 0 0 A) (F0 m 77 ls []) := by
    intro fuel
    induction fuel with
    | zero => intro vv t w g3 x2 k h2v h3v h4v h5v h0v h1v hg3 hqe hk hfk; exact absurd hfk (by omega)
    | succ fuel ih_77 =>
      intro vv t w g3 x2 k h2v h3v h4v h5v h0v h1v hg3 hqe hk hfk H locs hP hD hS ls hl
      refine lv_aload_n hx hb dX9_readsRow_77 rfl (lv_at hl 0 rfl) ?_
      refine va_get (D := Γ.1) (ci := 9) (v := .int (vv 4)) (C := RX9) (T := TX9) (N := 11) hx hb hts (by decide +kernel) hown hK hP 0 rfl rfl 7 (by decide) (hts (.fieldLink RX9 123 "RowVeilsModel" "isWell" "Z") (by decide +kernel)) (fun _ h9 => h9) rfl dX9_readsRow_78 ?_
      refine asi (z := bI w) (h4v) ?_
      refine lv_if_eq (tgt := 114) hx hb dX9_readsRow_81 (by decide) (fun c_81 => ?_) (fun c_81 => ?_)
      · have n_81 := bI_z.mp c_81
        exact L_114 vv t w g3 x2 k h2v h3v h4v h5v h0v h1v hg3 (re_bad n_81 hqe) _ _ hP hD hS ls (lv_sub hl [0, 1, 2, 3] rfl)
      · have n_81 := bI_nz.mp c_81
        refine lv_iload_n hx hb dX9_readsRow_84 rfl (lv_at hl 3 rfl) ?_
        refine lv_iconst (v := nI 3) hx hb dX9_readsRow_85 (by decide) ?_
        refine lv_icmp_ge (tgt := 114) hx hb dX9_readsRow_86 (by decide) (fun c_86 => ?_) (fun c_86 => ?_)
        · have n_86 := (nI_leI (a := 3) (b := k) (by omega) (by omega)).mp c_86
          exact L_114 vv t w g3 x2 k h2v h3v h4v h5v h0v h1v hg3 (re_ok n_81 hqe (Or.inl n_86)) _ _ hP hD hS ls (lv_sub hl [0, 1, 2, 3] rfl)
        · have n_86 := (not_congr (nI_leI (a := 3) (b := k) (by omega) (by omega))).mp c_86
          refine lv_aload_n hx hb dX9_readsRow_89 rfl (lv_at hl 0 rfl) ?_
          refine cRi (As := []) (rest := []) (m_X9_sign l Γ a vv hs (va_up g 3 g3) nb bb h2v hBR t (hqe.le) h3v) S k_X9_sign gX9_readsRow_X9_sign rfl ⟨Nat.le_of_ble_eq_true rfl, Nat.le_of_ble_eq_true rfl⟩ hK hP [0, 1, 2, 3, 4] rfl 0 (ci := 9) rfl rfl rfl rfl hl.1 (Nat.le_of_ble_eq_true rfl) rfl dX9_readsRow_90 ⟨Nat.le_of_ble_eq_true rfl, Nat.le_of_ble_eq_true rfl⟩ (fun r hr => ?_)
          subst hr
          refine lv_bipush (v := nI 33) hx hb dX9_readsRow_93 (by decide) ?_
          refine lv_icmp_ne (tgt := 114) hx hb dX9_readsRow_95 (by decide) (fun c_95 => ?_) (fun c_95 => ?_)
          · have hsl := sgn_lt hBR t
            have n_95 := (not_congr (nI_eq (a := sgnN bb nb t) (b := 33) (by omega) (by omega))).mp c_95
            exact L_114 vv t w g3 x2 k h2v h3v h4v h5v h0v h1v hg3 (re_ok n_81 hqe (Or.inr n_95)) _ _ hP hD hS ls (lv_sub hl [0, 1, 2, 3] rfl)
          · have hsl := sgn_lt hBR t
            have n_95 := (nI_eq (a := sgnN bb nb t) (b := 33) (by omega) (by omega)).mp c_95
            refine lv_iinc (v := nI (k + 1)) (lv' := [(3, .int (nI (k + 1))), (0, .ref (a 0)), (1, .int (nI (4 * rm))), (2, .int x2)]) hx hb dX9_readsRow_98 hl (k := 3) rfl (nI_add _ _) (by decide) rfl (fun ls hl => ?_)
            refine lv_aload_n hx hb dX9_readsRow_101 rfl (lv_at hl 1 rfl) ?_
            refine lv_dup hx hb dX9_readsRow_102 rfl ?_
            refine va_get (D := Γ.1) (ci := 9) (v := .int (vv 3)) (C := RX9) (T := TX9) (N := 11) hx hb hts (by decide +kernel) hown hK hP 0 rfl rfl 6 (by decide) (hts (.fieldLink RX9 120 "RowVeilsModel" "at" "I") (by decide +kernel)) (fun _ h9 => h9) rfl dX9_readsRow_103 ?_
            refine asi (z := nI t) (h3v) ?_
            refine lv_iconst (v := nI 1) hx hb dX9_readsRow_106 (by decide) ?_
            refine lv_iadd hx hb dX9_readsRow_107 ?_
            refine asi (z := nI (t + 1)) (nI_add _ _) ?_
            refine va_put (D := Γ.1) (ci := 9) (v := .int (nI (t + 1))) (ty := .int) (C := RX9) (T := TX9) (N := 11) hx hb hts (by decide +kernel) tyX9 tyX9_ok nmX9 hown hK hP hD hS 0 rfl rfl 6 (by decide) (hts (.fieldLink RX9 120 "RowVeilsModel" "at" "I") (by decide +kernel)) (fun _ h9 => h9) rfl (by decide +kernel) rfl rfl (Nat.le_of_ble_eq_true rfl) dX9_readsRow_108 (fun H locs hP hD hS => ?_)
            have hP : gP Γ [(a 0, .inr (9, [.int (vv 0), .ref (a 1), .ref (a 2), .int (vv 1), .ref (a 3), .int (vv 2), .int (nI (t + 1)), .int (vv 4), .ref (a 4), .int (vv 5), .long hs])), (a 1, .inl (Γ.2.1, 130, .inl (g 0))), (a 2, .inl (Γ.2.1, 780, .inl (g 1))), (a 3, .inl (Γ.2.1, 60, .inl (g 2))), (a 4, .inl (Γ.2.1, 88, .inl g3))] H := hP
            have hD : va_D A [(a 0, .inr (9, [.int (vv 0), .ref (a 1), .ref (a 2), .int (vv 1), .ref (a 3), .int (vv 2), .int (nI (t + 1)), .int (vv 4), .ref (a 4), .int (vv 5), .long hs])), (a 1, .inl (Γ.2.1, 130, .inl (g 0))), (a 2, .inl (Γ.2.1, 780, .inl (g 1))), (a 3, .inl (Γ.2.1, 60, .inl (g 2))), (a 4, .inl (Γ.2.1, 88, .inl g3))] := hD
            refine lv_goto (tgt := 77) hx hb dX9_readsRow_111 (by decide) ?_
            exact ih_77 (va_up vv 3 (nI (t + 1))) (t + 1) w g3 x2 (k + 1) h2v rfl h4v h5v h0v h1v hg3 (rl_s n_81 hqe (by omega) n_95) (by omega) (by omega) _ _ hP hD hS ls (lv_sub hl [1, 2, 3, 0] rfl)
  have hH : s.heap = s.heap := rfl
  refine lv_iconst (v := nI 4) hx hb dX9_readsRow_0 (by decide) ?_
  refine lv_aload_n hx hb dX9_readsRow_1 rfl (lv_at hl 0 rfl) ?_
  refine va_get (D := Γ.1) (ci := 9) (v := .int (v 5)) (C := RX9) (T := TX9) (N := 11) hx hb hts (by decide +kernel) hown hK hP 0 rfl rfl 9 (by decide) (hts (.fieldLink RX9 131 "RowVeilsModel" "readMany" "I") (by decide +kernel)) (fun _ h9 => h9) rfl dX9_readsRow_2 ?_
  refine asi (z := nI rm) (h5) ?_
  refine lv_imul hx hb dX9_readsRow_5 ?_
  refine asi (z := nI (4 * rm)) (pk_mul _ _) ?_
  refine lv_istore_n (lv' := [(1, .int (nI (4 * rm))), (0, .ref (a 0))]) hx hb dX9_readsRow_6 rfl hl (by decide) rfl (fun ls hl => ?_)
  refine lv_aload_n hx hb dX9_readsRow_7 rfl (lv_at hl 1 rfl) ?_
  refine va_get (D := Γ.1) (ci := 9) (v := .ref (a 4)) (C := RX9) (T := TX9) (N := 11) hx hb hts (by decide +kernel) hown hK hP 0 rfl rfl 8 (by decide) (hts (.fieldLink RX9 19 "RowVeilsModel" "read" "[I") (by decide +kernel)) (fun _ h9 => h9) rfl dX9_readsRow_8 ?_
  refine lv_iload_n hx hb dX9_readsRow_11 rfl (lv_at hl 0 rfl) ?_
  refine lv_aload_n hx hb dX9_readsRow_12 rfl (lv_at hl 1 rfl) ?_
  refine lv_bipush (v := nI 52) hx hb dX9_readsRow_13 (by decide) ?_
  refine cWi (As := [.int (nI 52)]) (rest := [.int (nI (4 * rm)), .ref (a 4)]) (wr := []) (m_X9_digit l Γ _ a v hs g nb bb h2 hBR ta (hwl.1) h3 true h4 52 (by decide)) S k_X9_digit gX9_readsRow_X9_digit rfl ⟨Nat.le_of_ble_eq_true rfl, Nat.le_of_ble_eq_true rfl⟩ hK hP hD hS hA [0, 1, 2, 3, 4] [] rfl rfl (by decide) (by decide) (by decide) 0 (ci := 9) rfl rfl rfl rfl hl.1 (Nat.le_of_ble_eq_true rfl) rfl dX9_readsRow_15 ⟨Nat.le_of_ble_eq_true rfl, Nat.le_of_ble_eq_true rfl⟩ (fun r u H locs hr hP hD hS => ?_)
  obtain ⟨v1, q1, o1⟩ := u
  obtain ⟨hr, hT1, hU⟩ := hr
  have e1 : hs = q1 := (congrArg Prod.fst hU).symm
  have e2 : g = o1 := (congrArg Prod.snd hU).symm
  subst e1
  subst e2
  have hP : gP Γ [(a 0, .inr (9, [.int (v1 0), .ref (a 1), .ref (a 2), .int (v1 1), .ref (a 3), .int (v1 2), .int (v1 3), .int (v1 4), .ref (a 4), .int (v1 5), .long hs])), (a 1, .inl (Γ.2.1, 130, .inl (g 0))), (a 2, .inl (Γ.2.1, 780, .inl (g 1))), (a 3, .inl (Γ.2.1, 60, .inl (g 2))), (a 4, .inl (Γ.2.1, 88, .inl (g 3)))] H := hP
  have hD : va_D A [(a 0, .inr (9, [.int (v1 0), .ref (a 1), .ref (a 2), .int (v1 1), .ref (a 3), .int (v1 2), .int (v1 3), .int (v1 4), .ref (a 4), .int (v1 5), .long hs])), (a 1, .inl (Γ.2.1, 130, .inl (g 0))), (a 2, .inl (Γ.2.1, 780, .inl (g 1))), (a 3, .inl (Γ.2.1, 60, .inl (g 2))), (a 4, .inl (Γ.2.1, 88, .inl (g 3)))] := hD
  subst hr
  obtain ⟨t1, w1, h3_1, h4_1, hk_1, hq_1, hw_1, hx_1⟩ := rq1 hq_0 hT1
  have h2_1 : v1 2 = nI nb := (hk_1 2 (by decide) (by decide)).trans h2
  have h5_1 : v1 5 = nI rm := (hk_1 5 (by decide) (by decide)).trans h5
  have h0_1 : v1 0 = v 0 := (hk_1 0 (by decide) (by decide)).trans rfl
  have h1_1 : v1 1 = v 1 := (hk_1 1 (by decide) (by decide)).trans rfl
  refine va_iast hx hb hK hP hD hS 4 0 rfl rfl (vp_in_nI (by omega) (by omega)) dX9_readsRow_18 (fun H locs hP hD hS => ?_)
  have ec : (nI (4 * rm)).toNatClampNeg = (4 * rm) := nI_clamp (by omega)
  rw [ec] at hP hD
  clear ec
  have hP : gP Γ [(a 0, .inr (9, [.int (v1 0), .ref (a 1), .ref (a 2), .int (v1 1), .ref (a 3), .int (v1 2), .int (v1 3), .int (v1 4), .ref (a 4), .int (v1 5), .long hs])), (a 1, .inl (Γ.2.1, 130, .inl (g 0))), (a 2, .inl (Γ.2.1, 780, .inl (g 1))), (a 3, .inl (Γ.2.1, 60, .inl (g 2))), (a 4, .inl (Γ.2.1, 88, .inl (upd (g 3) (4 * rm) (nI (sgnN bb nb ta) - nI 48))))] H := hP
  have hD : va_D A [(a 0, .inr (9, [.int (v1 0), .ref (a 1), .ref (a 2), .int (v1 1), .ref (a 3), .int (v1 2), .int (v1 3), .int (v1 4), .ref (a 4), .int (v1 5), .long hs])), (a 1, .inl (Γ.2.1, 130, .inl (g 0))), (a 2, .inl (Γ.2.1, 780, .inl (g 1))), (a 3, .inl (Γ.2.1, 60, .inl (g 2))), (a 4, .inl (Γ.2.1, 88, .inl (upd (g 3) (4 * rm) (nI (sgnN bb nb ta) - nI 48))))] := hD
  refine lv_aload_n hx hb dX9_readsRow_19 rfl (lv_at hl 1 rfl) ?_
  refine va_get (D := Γ.1) (ci := 9) (v := .ref (a 4)) (C := RX9) (T := TX9) (N := 11) hx hb hts (by decide +kernel) hown hK hP 0 rfl rfl 8 (by decide) (hts (.fieldLink RX9 19 "RowVeilsModel" "read" "[I") (by decide +kernel)) (fun _ h9 => h9) rfl dX9_readsRow_20 ?_
  refine lv_iload_n hx hb dX9_readsRow_23 rfl (lv_at hl 0 rfl) ?_
  refine lv_iconst (v := nI 1) hx hb dX9_readsRow_24 (by decide) ?_
  refine lv_iadd hx hb dX9_readsRow_25 ?_
  refine asi (z := nI ((4 * rm) + 1)) (nI_add _ _) ?_
  refine lv_aload_n hx hb dX9_readsRow_26 rfl (lv_at hl 1 rfl) ?_
  refine cWi (As := []) (rest := [.int (nI ((4 * rm) + 1)), .ref (a 4)]) (wr := []) (m_X9_placeRead l Γ _ a v1 hs (va_up g 3 (upd (g 3) (4 * rm) (nI (sgnN bb nb ta) - nI 48))) nb bb h2_1 hBR t1 (hq_1.le) h3_1 w1 h4_1) S k_X9_placeRead gX9_readsRow_X9_placeRead rfl ⟨Nat.le_of_ble_eq_true rfl, Nat.le_of_ble_eq_true rfl⟩ hK hP hD hS hA [0, 1, 2, 3, 4] [] rfl rfl (by decide) (by decide) (by decide) 0 (ci := 9) rfl rfl rfl rfl hl.1 (Nat.le_of_ble_eq_true rfl) rfl dX9_readsRow_27 ⟨Nat.le_of_ble_eq_true rfl, Nat.le_of_ble_eq_true rfl⟩ (fun r u H locs hr hP hD hS => ?_)
  obtain ⟨v2, q2, o2⟩ := u
  obtain ⟨hr, hT2, hU⟩ := hr
  have e1 : hs = q2 := (congrArg Prod.fst hU).symm
  have e2 : va_up g 3 (upd (g 3) (4 * rm) (nI (sgnN bb nb ta) - nI 48)) = o2 := (congrArg Prod.snd hU).symm
  subst e1
  subst e2
  have hP : gP Γ [(a 0, .inr (9, [.int (v2 0), .ref (a 1), .ref (a 2), .int (v2 1), .ref (a 3), .int (v2 2), .int (v2 3), .int (v2 4), .ref (a 4), .int (v2 5), .long hs])), (a 1, .inl (Γ.2.1, 130, .inl (g 0))), (a 2, .inl (Γ.2.1, 780, .inl (g 1))), (a 3, .inl (Γ.2.1, 60, .inl (g 2))), (a 4, .inl (Γ.2.1, 88, .inl (upd (g 3) (4 * rm) (nI (sgnN bb nb ta) - nI 48))))] H := hP
  have hD : va_D A [(a 0, .inr (9, [.int (v2 0), .ref (a 1), .ref (a 2), .int (v2 1), .ref (a 3), .int (v2 2), .int (v2 3), .int (v2 4), .ref (a 4), .int (v2 5), .long hs])), (a 1, .inl (Γ.2.1, 130, .inl (g 0))), (a 2, .inl (Γ.2.1, 780, .inl (g 1))), (a 3, .inl (Γ.2.1, 60, .inl (g 2))), (a 4, .inl (Γ.2.1, 88, .inl (upd (g 3) (4 * rm) (nI (sgnN bb nb ta) - nI 48))))] := hD
  subst hr
  obtain ⟨t2, w2, h3_2, h4_2, hk_2, hq_2, hw_2, hx_2⟩ := rq2 hq_1 hT2
  have h2_2 : v2 2 = nI nb := (hk_2 2 (by decide) (by decide)).trans h2_1
  have h5_2 : v2 5 = nI rm := (hk_2 5 (by decide) (by decide)).trans h5_1
  have h0_2 : v2 0 = v 0 := (hk_2 0 (by decide) (by decide)).trans h0_1
  have h1_2 : v2 1 = v 1 := (hk_2 1 (by decide) (by decide)).trans h1_1
  refine va_iast hx hb hK hP hD hS 4 0 rfl rfl (vp_in_nI (by omega) (by omega)) dX9_readsRow_30 (fun H locs hP hD hS => ?_)
  have ec : (nI ((4 * rm) + 1)).toNatClampNeg = ((4 * rm) + 1) := nI_clamp (by omega)
  rw [ec] at hP hD
  clear ec
  have hP : gP Γ [(a 0, .inr (9, [.int (v2 0), .ref (a 1), .ref (a 2), .int (v2 1), .ref (a 3), .int (v2 2), .int (v2 3), .int (v2 4), .ref (a 4), .int (v2 5), .long hs])), (a 1, .inl (Γ.2.1, 130, .inl (g 0))), (a 2, .inl (Γ.2.1, 780, .inl (g 1))), (a 3, .inl (Γ.2.1, 60, .inl (g 2))), (a 4, .inl (Γ.2.1, 88, .inl (upd (upd (g 3) (4 * rm) (nI (sgnN bb nb ta) - nI 48)) ((4 * rm) + 1) (nI (plM (sgnN bb nb t1))))))] H := hP
  have hD : va_D A [(a 0, .inr (9, [.int (v2 0), .ref (a 1), .ref (a 2), .int (v2 1), .ref (a 3), .int (v2 2), .int (v2 3), .int (v2 4), .ref (a 4), .int (v2 5), .long hs])), (a 1, .inl (Γ.2.1, 130, .inl (g 0))), (a 2, .inl (Γ.2.1, 780, .inl (g 1))), (a 3, .inl (Γ.2.1, 60, .inl (g 2))), (a 4, .inl (Γ.2.1, 88, .inl (upd (upd (g 3) (4 * rm) (nI (sgnN bb nb ta) - nI 48)) ((4 * rm) + 1) (nI (plM (sgnN bb nb t1))))))] := hD
  refine lv_aload_n hx hb dX9_readsRow_31 rfl (lv_at hl 1 rfl) ?_
  refine lv_bipush (v := nI 57) hx hb dX9_readsRow_32 (by decide) ?_
  refine cWi (As := [.int (nI 57)]) (rest := []) (wr := []) (m_X9_digit l Γ _ a v2 hs (va_up g 3 (upd (upd (g 3) (4 * rm) (nI (sgnN bb nb ta) - nI 48)) ((4 * rm) + 1) (nI (plM (sgnN bb nb t1))))) nb bb h2_2 hBR t2 (hq_2.le) h3_2 w2 h4_2 57 (by decide)) S k_X9_digit gX9_readsRow_X9_digit rfl ⟨Nat.le_of_ble_eq_true rfl, Nat.le_of_ble_eq_true rfl⟩ hK hP hD hS hA [0, 1, 2, 3, 4] [] rfl rfl (by decide) (by decide) (by decide) 0 (ci := 9) rfl rfl rfl rfl hl.1 (Nat.le_of_ble_eq_true rfl) rfl dX9_readsRow_34 ⟨Nat.le_of_ble_eq_true rfl, Nat.le_of_ble_eq_true rfl⟩ (fun r u H locs hr hP hD hS => ?_)
  obtain ⟨v3, q3, o3⟩ := u
  obtain ⟨hr, hT3, hU⟩ := hr
  have e1 : hs = q3 := (congrArg Prod.fst hU).symm
  have e2 : va_up g 3 (upd (upd (g 3) (4 * rm) (nI (sgnN bb nb ta) - nI 48)) ((4 * rm) + 1) (nI (plM (sgnN bb nb t1)))) = o3 := (congrArg Prod.snd hU).symm
  subst e1
  subst e2
  have hP : gP Γ [(a 0, .inr (9, [.int (v3 0), .ref (a 1), .ref (a 2), .int (v3 1), .ref (a 3), .int (v3 2), .int (v3 3), .int (v3 4), .ref (a 4), .int (v3 5), .long hs])), (a 1, .inl (Γ.2.1, 130, .inl (g 0))), (a 2, .inl (Γ.2.1, 780, .inl (g 1))), (a 3, .inl (Γ.2.1, 60, .inl (g 2))), (a 4, .inl (Γ.2.1, 88, .inl (upd (upd (g 3) (4 * rm) (nI (sgnN bb nb ta) - nI 48)) ((4 * rm) + 1) (nI (plM (sgnN bb nb t1))))))] H := hP
  have hD : va_D A [(a 0, .inr (9, [.int (v3 0), .ref (a 1), .ref (a 2), .int (v3 1), .ref (a 3), .int (v3 2), .int (v3 3), .int (v3 4), .ref (a 4), .int (v3 5), .long hs])), (a 1, .inl (Γ.2.1, 130, .inl (g 0))), (a 2, .inl (Γ.2.1, 780, .inl (g 1))), (a 3, .inl (Γ.2.1, 60, .inl (g 2))), (a 4, .inl (Γ.2.1, 88, .inl (upd (upd (g 3) (4 * rm) (nI (sgnN bb nb ta) - nI 48)) ((4 * rm) + 1) (nI (plM (sgnN bb nb t1))))))] := hD
  subst hr
  obtain ⟨t3, w3, h3_3, h4_3, hk_3, hq_3, hw_3, hx_3⟩ := rq3 hq_2 hT3
  have h2_3 : v3 2 = nI nb := (hk_3 2 (by decide) (by decide)).trans h2_2
  have h5_3 : v3 5 = nI rm := (hk_3 5 (by decide) (by decide)).trans h5_2
  have h0_3 : v3 0 = v 0 := (hk_3 0 (by decide) (by decide)).trans h0_2
  have h1_3 : v3 1 = v 1 := (hk_3 1 (by decide) (by decide)).trans h1_2
  have hv3 : w3 = true → nI (sgnN bb nb t2) - nI 48 = nI (bb (ta + 2) - 48) := rq_v hq_3 hx_3
  refine lv_istore_n (lv' := [(2, .int (nI (sgnN bb nb t2) - nI 48)), (1, .int (nI (4 * rm))), (0, .ref (a 0))]) hx hb dX9_readsRow_37 rfl hl (by decide) rfl (fun ls hl => ?_)
  refine lv_aload_n hx hb dX9_readsRow_38 rfl (lv_at hl 2 rfl) ?_
  refine va_get (D := Γ.1) (ci := 9) (v := .int (v3 4)) (C := RX9) (T := TX9) (N := 11) hx hb hts (by decide +kernel) hown hK hP 0 rfl rfl 7 (by decide) (hts (.fieldLink RX9 123 "RowVeilsModel" "isWell" "Z") (by decide +kernel)) (fun _ h9 => h9) rfl dX9_readsRow_39 ?_
  refine asi (z := bI w3) (h4_3) ?_
  refine lv_if_eq (tgt := 75) hx hb dX9_readsRow_42 (by decide) (fun c_42 => ?_) (fun c_42 => ?_)
  · have n_42 := bI_z.mp c_42
    refine lv_iconst (v := nI 0) hx hb dX9_readsRow_75 (by decide) ?_
    refine lv_istore_n (lv' := [(3, .int (nI 0)), (2, .int (nI (sgnN bb nb t2) - nI 48)), (1, .int (nI (4 * rm))), (0, .ref (a 0))]) hx hb dX9_readsRow_76 rfl hl (by decide) rfl (fun ls hl => ?_)
    exact L_77 4 v3 t3 w3 (upd (upd (g 3) (4 * rm) (nI (sgnN bb nb ta) - nI 48)) ((4 * rm) + 1) (nI (plM (sgnN bb nb t1)))) (nI (sgnN bb nb t2) - nI 48) 0 h2_3 h3_3 h4_3 h5_3 h0_3 h1_3 (rg_in (fun h => h) hx_1 hx_2 hx_3 hq_3) (rl_bad n_42 hq_3) (by omega) (by omega) _ _ hP hD hS ls (lv_sub hl [3, 2, 1, 0] rfl)
  · have n_42 := bI_nz.mp c_42
    have hv3 := hv3 n_42
    refine lv_iload_n hx hb dX9_readsRow_45 rfl (lv_at hl 0 rfl) ?_
    refine lv_if_le (tgt := 75) hx hb dX9_readsRow_46 (by decide) (fun c_46 => ?_) (fun c_46 => ?_)
    · rw [hv3] at c_46
      have n_46 : bb (ta + 2) = 48 := rq_0 hq_3 n_42 c_46
      refine lv_iconst (v := nI 0) hx hb dX9_readsRow_75 (by decide) ?_
      refine lv_istore_n (lv' := [(3, .int (nI 0)), (2, .int (nI (sgnN bb nb t2) - nI 48)), (1, .int (nI (4 * rm))), (0, .ref (a 0))]) hx hb dX9_readsRow_76 rfl hl (by decide) rfl (fun ls hl => ?_)
      exact L_77 4 v3 t3 w3 (upd (upd (g 3) (4 * rm) (nI (sgnN bb nb ta) - nI 48)) ((4 * rm) + 1) (nI (plM (sgnN bb nb t1)))) (nI (sgnN bb nb t2) - nI 48) 0 h2_3 h3_3 h4_3 h5_3 h0_3 h1_3 (rg_in (fun h => h) hx_1 hx_2 hx_3 hq_3) (rl_one n_42 hq_3 hv3 (Or.inl n_46)) (by omega) (by omega) _ _ hP hD hS ls (lv_sub hl [3, 2, 1, 0] rfl)
    · have c_46 := c_46
      rw [hv3] at c_46
      have n_46 : ¬ bb (ta + 2) = 48 := rq_1 c_46
      refine lv_aload_n hx hb dX9_readsRow_49 rfl (lv_at hl 2 rfl) ?_
      refine cRi (As := []) (rest := []) (m_X9_sign l Γ a v3 hs (va_up g 3 (upd (upd (g 3) (4 * rm) (nI (sgnN bb nb ta) - nI 48)) ((4 * rm) + 1) (nI (plM (sgnN bb nb t1))))) nb bb h2_3 hBR t3 (hq_3.le) h3_3) S k_X9_sign gX9_readsRow_X9_sign rfl ⟨Nat.le_of_ble_eq_true rfl, Nat.le_of_ble_eq_true rfl⟩ hK hP [0, 1, 2, 3, 4] rfl 0 (ci := 9) rfl rfl rfl rfl hl.1 (Nat.le_of_ble_eq_true rfl) rfl dX9_readsRow_50 ⟨Nat.le_of_ble_eq_true rfl, Nat.le_of_ble_eq_true rfl⟩ (fun r hr => ?_)
      subst hr
      refine lv_bipush (v := nI 48) hx hb dX9_readsRow_53 (by decide) ?_
      refine lv_bipush (v := nI 57) hx hb dX9_readsRow_55 (by decide) ?_
      refine cSi (As := [.int (nI (sgnN bb nb t3)), .int (nI 48), .int (nI 57)]) (rest := []) (m_X9_in l (nI (sgnN bb nb t3)) (nI 48) (nI 57)) S k_X9_in gX9_readsRow_X9_in ⟨Nat.le_of_ble_eq_true rfl, Nat.le_of_ble_eq_true rfl⟩ rfl hl.1 (Nat.le_of_ble_eq_true rfl) rfl dX9_readsRow_57 ⟨Nat.le_of_ble_eq_true rfl, Nat.le_of_ble_eq_true rfl⟩ (fun r hr => ?_)
      subst hr
      refine lv_if_eq (tgt := 75) hx hb dX9_readsRow_60 (by decide) (fun c_60 => ?_) (fun c_60 => ?_)
      · have n_60 := (in_dig (sgn_lt hBR t3)).symm.trans (bI_z.mp c_60)
        refine lv_iconst (v := nI 0) hx hb dX9_readsRow_75 (by decide) ?_
        refine lv_istore_n (lv' := [(3, .int (nI 0)), (2, .int (nI (sgnN bb nb t2) - nI 48)), (1, .int (nI (4 * rm))), (0, .ref (a 0))]) hx hb dX9_readsRow_76 rfl hl (by decide) rfl (fun ls hl => ?_)
        exact L_77 4 v3 t3 w3 (upd (upd (g 3) (4 * rm) (nI (sgnN bb nb ta) - nI 48)) ((4 * rm) + 1) (nI (plM (sgnN bb nb t1)))) (nI (sgnN bb nb t2) - nI 48) 0 h2_3 h3_3 h4_3 h5_3 h0_3 h1_3 (rg_in (fun h => h) hx_1 hx_2 hx_3 hq_3) (rl_one n_42 hq_3 hv3 (Or.inr n_60)) (by omega) (by omega) _ _ hP hD hS ls (lv_sub hl [3, 2, 1, 0] rfl)
      · have n_60 := (in_dig (sgn_lt hBR t3)).symm.trans (bI_nz.mp c_60)
        refine lv_bipush (v := nI 10) hx hb dX9_readsRow_63 (by decide) ?_
        refine lv_iload_n hx hb dX9_readsRow_65 rfl (lv_at hl 0 rfl) ?_
        refine lv_imul hx hb dX9_readsRow_66 ?_
        refine lv_aload_n hx hb dX9_readsRow_67 rfl (lv_at hl 2 rfl) ?_
        refine lv_bipush (v := nI 57) hx hb dX9_readsRow_68 (by decide) ?_
        refine cWi (As := [.int (nI 57)]) (rest := [.int ((nI 10) * (nI (sgnN bb nb t2) - nI 48))]) (wr := []) (m_X9_digit l Γ _ a v3 hs (va_up g 3 (upd (upd (g 3) (4 * rm) (nI (sgnN bb nb ta) - nI 48)) ((4 * rm) + 1) (nI (plM (sgnN bb nb t1))))) nb bb h2_3 hBR t3 (hq_3.le) h3_3 w3 h4_3 57 (by decide)) S k_X9_digit gX9_readsRow_X9_digit rfl ⟨Nat.le_of_ble_eq_true rfl, Nat.le_of_ble_eq_true rfl⟩ hK hP hD hS hA [0, 1, 2, 3, 4] [] rfl rfl (by decide) (by decide) (by decide) 0 (ci := 9) rfl rfl rfl rfl hl.1 (Nat.le_of_ble_eq_true rfl) rfl dX9_readsRow_70 ⟨Nat.le_of_ble_eq_true rfl, Nat.le_of_ble_eq_true rfl⟩ (fun r u H locs hr hP hD hS => ?_)
        obtain ⟨v4, q4, o4⟩ := u
        obtain ⟨hr, hT4, hU⟩ := hr
        have e1 : hs = q4 := (congrArg Prod.fst hU).symm
        have e2 : va_up g 3 (upd (upd (g 3) (4 * rm) (nI (sgnN bb nb ta) - nI 48)) ((4 * rm) + 1) (nI (plM (sgnN bb nb t1)))) = o4 := (congrArg Prod.snd hU).symm
        subst e1
        subst e2
        have hP : gP Γ [(a 0, .inr (9, [.int (v4 0), .ref (a 1), .ref (a 2), .int (v4 1), .ref (a 3), .int (v4 2), .int (v4 3), .int (v4 4), .ref (a 4), .int (v4 5), .long hs])), (a 1, .inl (Γ.2.1, 130, .inl (g 0))), (a 2, .inl (Γ.2.1, 780, .inl (g 1))), (a 3, .inl (Γ.2.1, 60, .inl (g 2))), (a 4, .inl (Γ.2.1, 88, .inl (upd (upd (g 3) (4 * rm) (nI (sgnN bb nb ta) - nI 48)) ((4 * rm) + 1) (nI (plM (sgnN bb nb t1))))))] H := hP
        have hD : va_D A [(a 0, .inr (9, [.int (v4 0), .ref (a 1), .ref (a 2), .int (v4 1), .ref (a 3), .int (v4 2), .int (v4 3), .int (v4 4), .ref (a 4), .int (v4 5), .long hs])), (a 1, .inl (Γ.2.1, 130, .inl (g 0))), (a 2, .inl (Γ.2.1, 780, .inl (g 1))), (a 3, .inl (Γ.2.1, 60, .inl (g 2))), (a 4, .inl (Γ.2.1, 88, .inl (upd (upd (g 3) (4 * rm) (nI (sgnN bb nb ta) - nI 48)) ((4 * rm) + 1) (nI (plM (sgnN bb nb t1))))))] := hD
        subst hr
        obtain ⟨h3_4, h4_4, hk_4, hq_4⟩ := rl_two n_42 hq_3 hv3 n_46 (rq_lt hBR n_60) n_60 hT4
        have h2_4 : v4 2 = nI nb := (hk_4 2 (by decide) (by decide)).trans h2_3
        have h5_4 : v4 5 = nI rm := (hk_4 5 (by decide) (by decide)).trans h5_3
        have h0_4 : v4 0 = v 0 := (hk_4 0 (by decide) (by decide)).trans h0_3
        have h1_4 : v4 1 = v 1 := (hk_4 1 (by decide) (by decide)).trans h1_3
        refine lv_iadd hx hb dX9_readsRow_73 ?_
        refine lv_istore_n (lv' := [(2, .int (((nI 10) * (nI (sgnN bb nb t2) - nI 48)) + (nI (sgnN bb nb t3) - nI 48))), (1, .int (nI (4 * rm))), (0, .ref (a 0))]) hx hb dX9_readsRow_74 rfl hl (by decide) rfl (fun ls hl => ?_)
        refine lv_iconst (v := nI 0) hx hb dX9_readsRow_75 (by decide) ?_
        refine lv_istore_n (lv' := [(3, .int (nI 0)), (2, .int (((nI 10) * (nI (sgnN bb nb t2) - nI 48)) + (nI (sgnN bb nb t3) - nI 48))), (1, .int (nI (4 * rm))), (0, .ref (a 0))]) hx hb dX9_readsRow_76 rfl hl (by decide) rfl (fun ls hl => ?_)
        exact L_77 4 v4 (t3 + 1) true (upd (upd (g 3) (4 * rm) (nI (sgnN bb nb ta) - nI 48)) ((4 * rm) + 1) (nI (plM (sgnN bb nb t1)))) (((nI 10) * (nI (sgnN bb nb t2) - nI 48)) + (nI (sgnN bb nb t3) - nI 48)) 0 h2_4 h3_4 h4_4 h5_4 h0_4 h1_4 (rg_in (fun _ => n_42) hx_1 hx_2 hx_3 hq_3) hq_4 (by omega) (by omega) _ _ hP hD hS ls (lv_sub hl [3, 2, 1, 0] rfl)

abbrev rm_X9_readsAll : Room := { frames := 3, cells := 0, slots := 0, locals := 67 }
theorem k_X9_readsAll : Cal yX9_readsAll wsX9_readsAll rm_X9_readsAll cX9_readsAll 1 none 0 0 0 := ⟨⟨_, rfl⟩, rfl, rfl, by decide +kernel⟩
set_option maxHeartbeats 4000000 in
set_option maxRecDepth 100000 in
theorem m_X9_readsAll (l : Launch) (Γ : Gm) (sz : Nat) (a : Nat → Nat) (v : Nat → Int32) (hs : Int64) (g : Nat → Nat → Int32) (nb : Nat) (bb : Nat → Nat) (h2 : v 2 = nI nb) (hBR : BR nb bb (g 2))  : MWv (S := WtM) l yX9_readsAll wsX9_readsAll rm_X9_readsAll Γ sz (wMd Γ a v hs g) [.ref (a 0)] (fun u => RAll bb nb v u.1 (u.2.2 3) ∧ u.2.1 = hs ∧ u.2.2 0 = g 0 ∧ u.2.2 1 = g 1 ∧ u.2.2 2 = g 2) (fun u => (wMd Γ a u.1 u.2.1 u.2.2)) 0 0 := by
  refine mW (cc := cX9_readsAll) (maxL := 1) (ret := none) (own := RX9) (by decide) rfl rfl (Nat.le_of_ble_eq_true rfl) ?_
  intro p e s m args below meth c S hrt hlk hin hsz hK hP hD hA hS ls hl
  subst hsz
  generalize hAe : va_A (wMd Γ a v hs g) s.heap.size = A at hD hA hS ⊢
  obtain ⟨hx, hb, hml, hown, hts⟩ := id S
  have hn6 := hBR.1
  have hl : lv_has ls 1 [(0, .ref (a 0))] := hl
  have L_19 : ∀ (fuel : Nat), ∀ (vv : Nat → Int32) (t : Nat) (w : Bool) (gg : Nat → Int32) (h2v : vv 2 = nI nb) (h3v : vv 3 = nI t) (h4v : vv 4 = bI w) (h0v : vv 0 = v 0) (h1v : vv 1 = v 1) (hra : RAL bb nb (vv 5) gg t w) (hfw : w = true → nb - t + 1 < fuel) (hf0 : 0 < fuel), ∀ (H : Heap) (locs : List Loc), gP Γ [(a 0, .inr (9, [.int (vv 0), .ref (a 1), .ref (a 2), .int (vv 1), .ref (a 3), .int (vv 2), .int (vv 3), .int (vv 4), .ref (a 4), .int (vv 5), .long hs])), (a 1, .inl (Γ.2.1, 130, .inl (g 0))), (a 2, .inl (Γ.2.1, 780, .inl (g 1))), (a 3, .inl (Γ.2.1, 60, .inl (g 2))), (a 4, .inl (Γ.2.1, 88, .inl gg))] H → va_D A [(a 0, .inr (9, [.int (vv 0), .ref (a 1), .ref (a 2), .int (vv 1), .ref (a 3), .int (vv 2), .int (vv 3), .int (vv 4), .ref (a 4), .int (vv 5), .long hs])), (a 1, .inl (Γ.2.1, 130, .inl (g 0))), (a 2, .inl (Γ.2.1, 780, .inl (g 1))), (a 3, .inl (Γ.2.1, 60, .inl (g 2))), (a 4, .inl (Γ.2.1, 88, .inl gg))] → va_S A s.heap H locs → ∀ ls : Array Slot, lv_has ls 1 [(0, .ref (a 0))] → W p l e rm_X9_readsAll s m args below meth c H locs 0 0 (MQ below (va_Qv (S := WtM) (fun u => RAll bb nb v u.1 (u.2.2 3) ∧ u.2.1 = hs ∧ u.2.2 0 = g 0 ∧ u.2.2 1 = g 1 ∧ u.2.2 2 = g 2) (fun u t9 => wd Γ A ((wMd Γ a u.1 u.2.1 u.2.2)) t9) A) args s 0 0 A) (F0 m 19 ls []) := by
    intro fuel
    induction fuel with
    | zero => intro vv t w gg h2v h3v h4v h0v h1v hra hfw hf0; exact absurd hf0 (by omega)
    | succ fuel ih_19 =>
      intro vv t w gg h2v h3v h4v h0v h1v hra hfw hf0 H locs hP hD hS ls hl
      refine lv_aload_n hx hb dX9_readsAll_19 rfl (lv_at hl 0 rfl) ?_
      refine va_get (D := Γ.1) (ci := 9) (v := .int (vv 4)) (C := RX9) (T := TX9) (N := 11) hx hb hts (by decide +kernel) hown hK hP 0 rfl rfl 7 (by decide) (hts (.fieldLink RX9 123 "RowVeilsModel" "isWell" "Z") (by decide +kernel)) (fun _ h9 => h9) rfl dX9_readsAll_20 ?_
      refine asi (z := bI w) (h4v) ?_
      refine lv_if_eq (tgt := 90) hx hb dX9_readsAll_23 (by decide) (fun c_23 => ?_) (fun c_23 => ?_)
      · have n_23 := bI_z.mp c_23
        exact W.vret hx hb hrt (fun t9 ht9 hW9 => ⟨⟨(vv, hs, va_up g 3 gg), rfl, ⟨hra.end h3v h4v h0v h1v (h2v.trans h2.symm) (Or.inl n_23), rfl, rfl, rfl, rfl⟩, wd_end hK hP hD [0, 1, 2, 3, 4] (by decide) rfl t9 ht9 hW9⟩, hS.F ht9⟩) hS.2.2 dX9_readsAll_90 hlk
      · have n_23 := bI_nz.mp c_23
        have hfw2 := hfw n_23
        have hle := hra.le
        refine lv_aload_n hx hb dX9_readsAll_26 rfl (lv_at hl 0 rfl) ?_
        refine va_get (D := Γ.1) (ci := 9) (v := .int (vv 3)) (C := RX9) (T := TX9) (N := 11) hx hb hts (by decide +kernel) hown hK hP 0 rfl rfl 6 (by decide) (hts (.fieldLink RX9 120 "RowVeilsModel" "at" "I") (by decide +kernel)) (fun _ h9 => h9) rfl dX9_readsAll_27 ?_
        refine asi (z := nI t) (h3v) ?_
        refine lv_aload_n hx hb dX9_readsAll_30 rfl (lv_at hl 0 rfl) ?_
        refine va_get (D := Γ.1) (ci := 9) (v := .int (vv 2)) (C := RX9) (T := TX9) (N := 11) hx hb hts (by decide +kernel) hown hK hP 0 rfl rfl 5 (by decide) (hts (.fieldLink RX9 117 "RowVeilsModel" "length" "I") (by decide +kernel)) (fun _ h9 => h9) rfl dX9_readsAll_31 ?_
        refine asi (z := nI nb) (h2v) ?_
        refine lv_icmp_ge (tgt := 90) hx hb dX9_readsAll_34 (by decide) (fun c_34 => ?_) (fun c_34 => ?_)
        · have n_34 := (nI_leI (a := nb) (b := t) (by omega) (by omega)).mp c_34
          exact W.vret hx hb hrt (fun t9 ht9 hW9 => ⟨⟨(vv, hs, va_up g 3 gg), rfl, ⟨hra.end h3v h4v h0v h1v (h2v.trans h2.symm) (Or.inr (Nat.not_lt.mpr n_34)), rfl, rfl, rfl, rfl⟩, wd_end hK hP hD [0, 1, 2, 3, 4] (by decide) rfl t9 ht9 hW9⟩, hS.F ht9⟩) hS.2.2 dX9_readsAll_90 hlk
        · have n_34 := Nat.not_le.mp ((not_congr (nI_leI (a := nb) (b := t) (by omega) (by omega))).mp c_34)
          refine lv_aload_n hx hb dX9_readsAll_37 rfl (lv_at hl 0 rfl) ?_
          refine lv_aload_n hx hb dX9_readsAll_38 rfl (lv_at hl 0 rfl) ?_
          refine cRi (As := []) (rest := [.ref (a 0)]) (m_X9_sign l Γ a vv hs (va_up g 3 gg) nb bb h2v hBR t hra.le h3v) S k_X9_sign gX9_readsAll_X9_sign rfl ⟨Nat.le_of_ble_eq_true rfl, Nat.le_of_ble_eq_true rfl⟩ hK hP [0, 1, 2, 3, 4] rfl 0 (ci := 9) rfl rfl rfl rfl hl.1 (Nat.le_of_ble_eq_true rfl) rfl dX9_readsAll_39 ⟨Nat.le_of_ble_eq_true rfl, Nat.le_of_ble_eq_true rfl⟩ (fun r hr => ?_)
          subst hr
          refine lv_bipush (v := nI 44) hx hb dX9_readsAll_42 (by decide) ?_
          refine lv_icmp_ne (tgt := 51) hx hb dX9_readsAll_44 (by decide) (fun c_44 => ?_) (fun c_44 => ?_)
          · have hsl := sgn_lt hBR t
            rw [sgn_in n_34] at hsl c_44
            have n_44 := (not_congr (nI_eq (a := bb t) (b := 44) (by omega) (by omega))).mp c_44
            refine lv_iconst (v := nI 0) hx hb dX9_readsAll_51 (by decide) ?_
            refine va_put (D := Γ.1) (ci := 9) (v := .int (nI 0)) (ty := .boolean) (C := RX9) (T := TX9) (N := 11) hx hb hts (by decide +kernel) tyX9 tyX9_ok nmX9 hown hK hP hD hS 0 rfl rfl 7 (by decide) (hts (.fieldLink RX9 123 "RowVeilsModel" "isWell" "Z") (by decide +kernel)) (fun _ h9 => h9) rfl (by decide +kernel) rfl rfl (Nat.le_of_ble_eq_true rfl) dX9_readsAll_52 (fun H locs hP hD hS => ?_)
            have hP : gP Γ [(a 0, .inr (9, [.int (vv 0), .ref (a 1), .ref (a 2), .int (vv 1), .ref (a 3), .int (vv 2), .int (vv 3), .int (nI 0), .ref (a 4), .int (vv 5), .long hs])), (a 1, .inl (Γ.2.1, 130, .inl (g 0))), (a 2, .inl (Γ.2.1, 780, .inl (g 1))), (a 3, .inl (Γ.2.1, 60, .inl (g 2))), (a 4, .inl (Γ.2.1, 88, .inl gg))] H := hP
            have hD : va_D A [(a 0, .inr (9, [.int (vv 0), .ref (a 1), .ref (a 2), .int (vv 1), .ref (a 3), .int (vv 2), .int (vv 3), .int (nI 0), .ref (a 4), .int (vv 5), .long hs])), (a 1, .inl (Γ.2.1, 130, .inl (g 0))), (a 2, .inl (Γ.2.1, 780, .inl (g 1))), (a 3, .inl (Γ.2.1, 60, .inl (g 2))), (a 4, .inl (Γ.2.1, 88, .inl gg))] := hD
            refine lv_aload_n hx hb dX9_readsAll_55 rfl (lv_at hl 0 rfl) ?_
            refine lv_dup hx hb dX9_readsAll_56 rfl ?_
            refine va_get (D := Γ.1) (ci := 9) (v := .int (vv 3)) (C := RX9) (T := TX9) (N := 11) hx hb hts (by decide +kernel) hown hK hP 0 rfl rfl 6 (by decide) (hts (.fieldLink RX9 120 "RowVeilsModel" "at" "I") (by decide +kernel)) (fun _ h9 => h9) rfl dX9_readsAll_57 ?_
            refine asi (z := nI t) (h3v) ?_
            refine lv_aload_n hx hb dX9_readsAll_60 rfl (lv_at hl 0 rfl) ?_
            refine va_get (D := Γ.1) (ci := 9) (v := .int (nI 0)) (C := RX9) (T := TX9) (N := 11) hx hb hts (by decide +kernel) hown hK hP 0 rfl rfl 7 (by decide) (hts (.fieldLink RX9 123 "RowVeilsModel" "isWell" "Z") (by decide +kernel)) (fun _ h9 => h9) rfl dX9_readsAll_61 ?_
            refine lv_if_eq (tgt := 71) hx hb dX9_readsAll_64 (by decide) (fun c_64 => ?_) (fun c_64 => ?_)
            · refine lv_iconst (v := nI 0) hx hb dX9_readsAll_71 (by decide) ?_
              refine lv_iadd hx hb dX9_readsAll_72 ?_
              refine asi (z := nI (t + 0)) (nI_add _ _) ?_
              refine va_put (D := Γ.1) (ci := 9) (v := .int (nI (t + 0))) (ty := .int) (C := RX9) (T := TX9) (N := 11) hx hb hts (by decide +kernel) tyX9 tyX9_ok nmX9 hown hK hP hD hS 0 rfl rfl 6 (by decide) (hts (.fieldLink RX9 120 "RowVeilsModel" "at" "I") (by decide +kernel)) (fun _ h9 => h9) rfl (by decide +kernel) rfl rfl (Nat.le_of_ble_eq_true rfl) dX9_readsAll_73 (fun H locs hP hD hS => ?_)
              have hP : gP Γ [(a 0, .inr (9, [.int (vv 0), .ref (a 1), .ref (a 2), .int (vv 1), .ref (a 3), .int (vv 2), .int (nI (t + 0)), .int (nI 0), .ref (a 4), .int (vv 5), .long hs])), (a 1, .inl (Γ.2.1, 130, .inl (g 0))), (a 2, .inl (Γ.2.1, 780, .inl (g 1))), (a 3, .inl (Γ.2.1, 60, .inl (g 2))), (a 4, .inl (Γ.2.1, 88, .inl gg))] H := hP
              have hD : va_D A [(a 0, .inr (9, [.int (vv 0), .ref (a 1), .ref (a 2), .int (vv 1), .ref (a 3), .int (vv 2), .int (nI (t + 0)), .int (nI 0), .ref (a 4), .int (vv 5), .long hs])), (a 1, .inl (Γ.2.1, 130, .inl (g 0))), (a 2, .inl (Γ.2.1, 780, .inl (g 1))), (a 3, .inl (Γ.2.1, 60, .inl (g 2))), (a 4, .inl (Γ.2.1, 88, .inl gg))] := hD
              refine lv_aload_n hx hb dX9_readsAll_76 rfl (lv_at hl 0 rfl) ?_
              refine va_get (D := Γ.1) (ci := 9) (v := .int (nI 0)) (C := RX9) (T := TX9) (N := 11) hx hb hts (by decide +kernel) hown hK hP 0 rfl rfl 7 (by decide) (hts (.fieldLink RX9 123 "RowVeilsModel" "isWell" "Z") (by decide +kernel)) (fun _ h9 => h9) rfl dX9_readsAll_77 ?_
              refine lv_if_eq (tgt := 19) hx hb dX9_readsAll_80 (by decide) (fun c_80 => ?_) (fun c_80 => ?_)
              · exact ih_19 (va_up (va_up vv 3 (nI (t + 0))) 4 (nI 0)) t false gg h2v rfl rfl h0v h1v (ral_x n_23 hra n_34 n_44) (fun h => by cases h) (by omega) _ _ hP hD hS ls (lv_sub hl [0] rfl)
              · exact absurd rfl c_80
            · exact absurd rfl c_64
          · have hsl := sgn_lt hBR t
            rw [sgn_in n_34] at hsl c_44
            have n_44 := (nI_eq (a := bb t) (b := 44) (by omega) (by omega)).mp c_44
            refine lv_iconst (v := nI 1) hx hb dX9_readsAll_47 (by decide) ?_
            refine lv_goto (tgt := 52) hx hb dX9_readsAll_48 (by decide) ?_
            refine va_put (D := Γ.1) (ci := 9) (v := .int (nI 1)) (ty := .boolean) (C := RX9) (T := TX9) (N := 11) hx hb hts (by decide +kernel) tyX9 tyX9_ok nmX9 hown hK hP hD hS 0 rfl rfl 7 (by decide) (hts (.fieldLink RX9 123 "RowVeilsModel" "isWell" "Z") (by decide +kernel)) (fun _ h9 => h9) rfl (by decide +kernel) rfl rfl (Nat.le_of_ble_eq_true rfl) dX9_readsAll_52 (fun H locs hP hD hS => ?_)
            have hP : gP Γ [(a 0, .inr (9, [.int (vv 0), .ref (a 1), .ref (a 2), .int (vv 1), .ref (a 3), .int (vv 2), .int (vv 3), .int (nI 1), .ref (a 4), .int (vv 5), .long hs])), (a 1, .inl (Γ.2.1, 130, .inl (g 0))), (a 2, .inl (Γ.2.1, 780, .inl (g 1))), (a 3, .inl (Γ.2.1, 60, .inl (g 2))), (a 4, .inl (Γ.2.1, 88, .inl gg))] H := hP
            have hD : va_D A [(a 0, .inr (9, [.int (vv 0), .ref (a 1), .ref (a 2), .int (vv 1), .ref (a 3), .int (vv 2), .int (vv 3), .int (nI 1), .ref (a 4), .int (vv 5), .long hs])), (a 1, .inl (Γ.2.1, 130, .inl (g 0))), (a 2, .inl (Γ.2.1, 780, .inl (g 1))), (a 3, .inl (Γ.2.1, 60, .inl (g 2))), (a 4, .inl (Γ.2.1, 88, .inl gg))] := hD
            refine lv_aload_n hx hb dX9_readsAll_55 rfl (lv_at hl 0 rfl) ?_
            refine lv_dup hx hb dX9_readsAll_56 rfl ?_
            refine va_get (D := Γ.1) (ci := 9) (v := .int (vv 3)) (C := RX9) (T := TX9) (N := 11) hx hb hts (by decide +kernel) hown hK hP 0 rfl rfl 6 (by decide) (hts (.fieldLink RX9 120 "RowVeilsModel" "at" "I") (by decide +kernel)) (fun _ h9 => h9) rfl dX9_readsAll_57 ?_
            refine asi (z := nI t) (h3v) ?_
            refine lv_aload_n hx hb dX9_readsAll_60 rfl (lv_at hl 0 rfl) ?_
            refine va_get (D := Γ.1) (ci := 9) (v := .int (nI 1)) (C := RX9) (T := TX9) (N := 11) hx hb hts (by decide +kernel) hown hK hP 0 rfl rfl 7 (by decide) (hts (.fieldLink RX9 123 "RowVeilsModel" "isWell" "Z") (by decide +kernel)) (fun _ h9 => h9) rfl dX9_readsAll_61 ?_
            refine lv_if_eq (tgt := 71) hx hb dX9_readsAll_64 (by decide) (fun c_64 => ?_) (fun c_64 => ?_)
            · exact absurd c_64 (by decide)
            · refine lv_iconst (v := nI 1) hx hb dX9_readsAll_67 (by decide) ?_
              refine lv_goto (tgt := 72) hx hb dX9_readsAll_68 (by decide) ?_
              refine lv_iadd hx hb dX9_readsAll_72 ?_
              refine asi (z := nI (t + 1)) (nI_add _ _) ?_
              refine va_put (D := Γ.1) (ci := 9) (v := .int (nI (t + 1))) (ty := .int) (C := RX9) (T := TX9) (N := 11) hx hb hts (by decide +kernel) tyX9 tyX9_ok nmX9 hown hK hP hD hS 0 rfl rfl 6 (by decide) (hts (.fieldLink RX9 120 "RowVeilsModel" "at" "I") (by decide +kernel)) (fun _ h9 => h9) rfl (by decide +kernel) rfl rfl (Nat.le_of_ble_eq_true rfl) dX9_readsAll_73 (fun H locs hP hD hS => ?_)
              have hP : gP Γ [(a 0, .inr (9, [.int (vv 0), .ref (a 1), .ref (a 2), .int (vv 1), .ref (a 3), .int (vv 2), .int (nI (t + 1)), .int (nI 1), .ref (a 4), .int (vv 5), .long hs])), (a 1, .inl (Γ.2.1, 130, .inl (g 0))), (a 2, .inl (Γ.2.1, 780, .inl (g 1))), (a 3, .inl (Γ.2.1, 60, .inl (g 2))), (a 4, .inl (Γ.2.1, 88, .inl gg))] H := hP
              have hD : va_D A [(a 0, .inr (9, [.int (vv 0), .ref (a 1), .ref (a 2), .int (vv 1), .ref (a 3), .int (vv 2), .int (nI (t + 1)), .int (nI 1), .ref (a 4), .int (vv 5), .long hs])), (a 1, .inl (Γ.2.1, 130, .inl (g 0))), (a 2, .inl (Γ.2.1, 780, .inl (g 1))), (a 3, .inl (Γ.2.1, 60, .inl (g 2))), (a 4, .inl (Γ.2.1, 88, .inl gg))] := hD
              refine lv_aload_n hx hb dX9_readsAll_76 rfl (lv_at hl 0 rfl) ?_
              refine va_get (D := Γ.1) (ci := 9) (v := .int (nI 1)) (C := RX9) (T := TX9) (N := 11) hx hb hts (by decide +kernel) hown hK hP 0 rfl rfl 7 (by decide) (hts (.fieldLink RX9 123 "RowVeilsModel" "isWell" "Z") (by decide +kernel)) (fun _ h9 => h9) rfl dX9_readsAll_77 ?_
              refine lv_if_eq (tgt := 19) hx hb dX9_readsAll_80 (by decide) (fun c_80 => ?_) (fun c_80 => ?_)
              · exact absurd c_80 (by decide)
              · refine lv_aload_n hx hb dX9_readsAll_83 rfl (lv_at hl 0 rfl) ?_
                have hc := ral_c n_23 hra n_34 n_44
                refine cWv (As := []) (rest := []) (wr := []) (m_X9_readsRow l Γ _ a (va_up (va_up vv 3 (nI (t + 1))) 4 (nI 1)) hs (va_up g 3 gg) nb bb h2v hBR (t + 1) (prt bb nb t + 1) hc.1 hc.2.1 hc.2.2.1 rfl rfl hc.2.2.2) S k_X9_readsRow gX9_readsAll_X9_readsRow rfl ⟨Nat.le_of_ble_eq_true rfl, Nat.le_of_ble_eq_true rfl⟩ hK hP hD hS hA [0, 1, 2, 3, 4] [] rfl rfl (by decide) (by decide) (by decide) 0 (ci := 9) rfl rfl rfl rfl hl.1 (Nat.le_of_ble_eq_true rfl) rfl dX9_readsAll_84 ⟨Nat.le_of_ble_eq_true rfl, Nat.le_of_ble_eq_true rfl⟩ (fun u H locs hr hP hD hS => ?_)
                obtain ⟨v2, q2, o2⟩ := u
                obtain ⟨⟨t2, w2, hR2⟩, hU1, hg0, hg1, hg2⟩ := hr
                have e1 : hs = q2 := hU1.symm
                subst e1
                have hg0 : o2 0 = g 0 := hg0
                have hg1 : o2 1 = g 1 := hg1
                have hg2 : o2 2 = g 2 := hg2
                have hP : gP Γ [(a 0, .inr (9, [.int (v2 0), .ref (a 1), .ref (a 2), .int (v2 1), .ref (a 3), .int (v2 2), .int (v2 3), .int (v2 4), .ref (a 4), .int (v2 5), .long hs])), (a 1, .inl (Γ.2.1, 130, .inl (o2 0))), (a 2, .inl (Γ.2.1, 780, .inl (o2 1))), (a 3, .inl (Γ.2.1, 60, .inl (o2 2))), (a 4, .inl (Γ.2.1, 88, .inl (o2 3)))] H := hP
                have hD : va_D A [(a 0, .inr (9, [.int (v2 0), .ref (a 1), .ref (a 2), .int (v2 1), .ref (a 3), .int (v2 2), .int (v2 3), .int (v2 4), .ref (a 4), .int (v2 5), .long hs])), (a 1, .inl (Γ.2.1, 130, .inl (o2 0))), (a 2, .inl (Γ.2.1, 780, .inl (o2 1))), (a 3, .inl (Γ.2.1, 60, .inl (o2 2))), (a 4, .inl (Γ.2.1, 88, .inl (o2 3)))] := hD
                rw [hg0, hg1, hg2] at hP hD
                have hP : gP Γ [(a 0, .inr (9, [.int (v2 0), .ref (a 1), .ref (a 2), .int (v2 1), .ref (a 3), .int (v2 2), .int (v2 3), .int (v2 4), .ref (a 4), .int (v2 5), .long hs])), (a 1, .inl (Γ.2.1, 130, .inl (g 0))), (a 2, .inl (Γ.2.1, 780, .inl (g 1))), (a 3, .inl (Γ.2.1, 60, .inl (g 2))), (a 4, .inl (Γ.2.1, 88, .inl (o2 3)))] H := hP
                have hD : va_D A [(a 0, .inr (9, [.int (v2 0), .ref (a 1), .ref (a 2), .int (v2 1), .ref (a 3), .int (v2 2), .int (v2 3), .int (v2 4), .ref (a 4), .int (v2 5), .long hs])), (a 1, .inl (Γ.2.1, 130, .inl (g 0))), (a 2, .inl (Γ.2.1, 780, .inl (g 1))), (a 3, .inl (Γ.2.1, 60, .inl (g 2))), (a 4, .inl (Γ.2.1, 88, .inl (o2 3)))] := hD
                refine lv_goto (tgt := 19) hx hb dX9_readsAll_87 (by decide) ?_
                exact ih_19 v2 t2 w2 (o2 3) (hR2.h2.trans h2v) hR2.h3 hR2.h4 (hR2.h0.trans h0v) (hR2.h1.trans h1v) (ral_s n_23 hra n_34 n_44 hR2) (fun h => by have := rr_ge hR2 h; omega) (by omega) _ _ hP hD hS ls (lv_sub hl [0] rfl)
  have hH : s.heap = s.heap := rfl
  refine lv_aload_n hx hb dX9_readsAll_0 rfl (lv_at hl 0 rfl) ?_
  refine lv_iconst (v := nI 0) hx hb dX9_readsAll_1 (by decide) ?_
  refine va_put (D := Γ.1) (ci := 9) (v := .int (nI 0)) (ty := .int) (C := RX9) (T := TX9) (N := 11) hx hb hts (by decide +kernel) tyX9 tyX9_ok nmX9 hown hK hP hD hS 0 rfl rfl 6 (by decide) (hts (.fieldLink RX9 120 "RowVeilsModel" "at" "I") (by decide +kernel)) (fun _ h9 => h9) rfl (by decide +kernel) rfl rfl (Nat.le_of_ble_eq_true rfl) dX9_readsAll_2 (fun H locs hP hD hS => ?_)
  have hP : gP Γ [(a 0, .inr (9, [.int (v 0), .ref (a 1), .ref (a 2), .int (v 1), .ref (a 3), .int (v 2), .int (nI 0), .int (v 4), .ref (a 4), .int (v 5), .long hs])), (a 1, .inl (Γ.2.1, 130, .inl (g 0))), (a 2, .inl (Γ.2.1, 780, .inl (g 1))), (a 3, .inl (Γ.2.1, 60, .inl (g 2))), (a 4, .inl (Γ.2.1, 88, .inl (g 3)))] H := hP
  have hD : va_D A [(a 0, .inr (9, [.int (v 0), .ref (a 1), .ref (a 2), .int (v 1), .ref (a 3), .int (v 2), .int (nI 0), .int (v 4), .ref (a 4), .int (v 5), .long hs])), (a 1, .inl (Γ.2.1, 130, .inl (g 0))), (a 2, .inl (Γ.2.1, 780, .inl (g 1))), (a 3, .inl (Γ.2.1, 60, .inl (g 2))), (a 4, .inl (Γ.2.1, 88, .inl (g 3)))] := hD
  refine lv_aload_n hx hb dX9_readsAll_5 rfl (lv_at hl 0 rfl) ?_
  refine lv_iconst (v := nI 1) hx hb dX9_readsAll_6 (by decide) ?_
  refine va_put (D := Γ.1) (ci := 9) (v := .int (nI 1)) (ty := .boolean) (C := RX9) (T := TX9) (N := 11) hx hb hts (by decide +kernel) tyX9 tyX9_ok nmX9 hown hK hP hD hS 0 rfl rfl 7 (by decide) (hts (.fieldLink RX9 123 "RowVeilsModel" "isWell" "Z") (by decide +kernel)) (fun _ h9 => h9) rfl (by decide +kernel) rfl rfl (Nat.le_of_ble_eq_true rfl) dX9_readsAll_7 (fun H locs hP hD hS => ?_)
  have hP : gP Γ [(a 0, .inr (9, [.int (v 0), .ref (a 1), .ref (a 2), .int (v 1), .ref (a 3), .int (v 2), .int (nI 0), .int (nI 1), .ref (a 4), .int (v 5), .long hs])), (a 1, .inl (Γ.2.1, 130, .inl (g 0))), (a 2, .inl (Γ.2.1, 780, .inl (g 1))), (a 3, .inl (Γ.2.1, 60, .inl (g 2))), (a 4, .inl (Γ.2.1, 88, .inl (g 3)))] H := hP
  have hD : va_D A [(a 0, .inr (9, [.int (v 0), .ref (a 1), .ref (a 2), .int (v 1), .ref (a 3), .int (v 2), .int (nI 0), .int (nI 1), .ref (a 4), .int (v 5), .long hs])), (a 1, .inl (Γ.2.1, 130, .inl (g 0))), (a 2, .inl (Γ.2.1, 780, .inl (g 1))), (a 3, .inl (Γ.2.1, 60, .inl (g 2))), (a 4, .inl (Γ.2.1, 88, .inl (g 3)))] := hD
  refine lv_aload_n hx hb dX9_readsAll_10 rfl (lv_at hl 0 rfl) ?_
  refine lv_iconst (v := nI 0) hx hb dX9_readsAll_11 (by decide) ?_
  refine va_put (D := Γ.1) (ci := 9) (v := .int (nI 0)) (ty := .int) (C := RX9) (T := TX9) (N := 11) hx hb hts (by decide +kernel) tyX9 tyX9_ok nmX9 hown hK hP hD hS 0 rfl rfl 9 (by decide) (hts (.fieldLink RX9 131 "RowVeilsModel" "readMany" "I") (by decide +kernel)) (fun _ h9 => h9) rfl (by decide +kernel) rfl rfl (Nat.le_of_ble_eq_true rfl) dX9_readsAll_12 (fun H locs hP hD hS => ?_)
  have hP : gP Γ [(a 0, .inr (9, [.int (v 0), .ref (a 1), .ref (a 2), .int (v 1), .ref (a 3), .int (v 2), .int (nI 0), .int (nI 1), .ref (a 4), .int (nI 0), .long hs])), (a 1, .inl (Γ.2.1, 130, .inl (g 0))), (a 2, .inl (Γ.2.1, 780, .inl (g 1))), (a 3, .inl (Γ.2.1, 60, .inl (g 2))), (a 4, .inl (Γ.2.1, 88, .inl (g 3)))] H := hP
  have hD : va_D A [(a 0, .inr (9, [.int (v 0), .ref (a 1), .ref (a 2), .int (v 1), .ref (a 3), .int (v 2), .int (nI 0), .int (nI 1), .ref (a 4), .int (nI 0), .long hs])), (a 1, .inl (Γ.2.1, 130, .inl (g 0))), (a 2, .inl (Γ.2.1, 780, .inl (g 1))), (a 3, .inl (Γ.2.1, 60, .inl (g 2))), (a 4, .inl (Γ.2.1, 88, .inl (g 3)))] := hD
  refine lv_aload_n hx hb dX9_readsAll_15 rfl (lv_at hl 0 rfl) ?_
  refine cWv (As := []) (rest := []) (wr := []) (m_X9_readsRow l Γ _ a (va_up (va_up (va_up v 3 (nI 0)) 4 (nI 1)) 5 (nI 0)) hs g nb bb h2 hBR 0 0 (wl_0 bb nb) rfl (by omega) rfl rfl rfl) S k_X9_readsRow gX9_readsAll_X9_readsRow rfl ⟨Nat.le_of_ble_eq_true rfl, Nat.le_of_ble_eq_true rfl⟩ hK hP hD hS hA [0, 1, 2, 3, 4] [] rfl rfl (by decide) (by decide) (by decide) 0 (ci := 9) rfl rfl rfl rfl hl.1 (Nat.le_of_ble_eq_true rfl) rfl dX9_readsAll_16 ⟨Nat.le_of_ble_eq_true rfl, Nat.le_of_ble_eq_true rfl⟩ (fun u H locs hr hP hD hS => ?_)
  obtain ⟨v1, q1, o1⟩ := u
  obtain ⟨⟨t1, w1, hR1⟩, hU1, hg0, hg1, hg2⟩ := hr
  have e1 : hs = q1 := hU1.symm
  subst e1
  have hg0 : o1 0 = g 0 := hg0
  have hg1 : o1 1 = g 1 := hg1
  have hg2 : o1 2 = g 2 := hg2
  have hP : gP Γ [(a 0, .inr (9, [.int (v1 0), .ref (a 1), .ref (a 2), .int (v1 1), .ref (a 3), .int (v1 2), .int (v1 3), .int (v1 4), .ref (a 4), .int (v1 5), .long hs])), (a 1, .inl (Γ.2.1, 130, .inl (o1 0))), (a 2, .inl (Γ.2.1, 780, .inl (o1 1))), (a 3, .inl (Γ.2.1, 60, .inl (o1 2))), (a 4, .inl (Γ.2.1, 88, .inl (o1 3)))] H := hP
  have hD : va_D A [(a 0, .inr (9, [.int (v1 0), .ref (a 1), .ref (a 2), .int (v1 1), .ref (a 3), .int (v1 2), .int (v1 3), .int (v1 4), .ref (a 4), .int (v1 5), .long hs])), (a 1, .inl (Γ.2.1, 130, .inl (o1 0))), (a 2, .inl (Γ.2.1, 780, .inl (o1 1))), (a 3, .inl (Γ.2.1, 60, .inl (o1 2))), (a 4, .inl (Γ.2.1, 88, .inl (o1 3)))] := hD
  rw [hg0, hg1, hg2] at hP hD
  have hP : gP Γ [(a 0, .inr (9, [.int (v1 0), .ref (a 1), .ref (a 2), .int (v1 1), .ref (a 3), .int (v1 2), .int (v1 3), .int (v1 4), .ref (a 4), .int (v1 5), .long hs])), (a 1, .inl (Γ.2.1, 130, .inl (g 0))), (a 2, .inl (Γ.2.1, 780, .inl (g 1))), (a 3, .inl (Γ.2.1, 60, .inl (g 2))), (a 4, .inl (Γ.2.1, 88, .inl (o1 3)))] H := hP
  have hD : va_D A [(a 0, .inr (9, [.int (v1 0), .ref (a 1), .ref (a 2), .int (v1 1), .ref (a 3), .int (v1 2), .int (v1 3), .int (v1 4), .ref (a 4), .int (v1 5), .long hs])), (a 1, .inl (Γ.2.1, 130, .inl (g 0))), (a 2, .inl (Γ.2.1, 780, .inl (g 1))), (a 3, .inl (Γ.2.1, 60, .inl (g 2))), (a 4, .inl (Γ.2.1, 88, .inl (o1 3)))] := hD
  exact L_19 (nb + 2) v1 t1 w1 (o1 3) (hR1.h2.trans h2) hR1.h3 hR1.h4 hR1.h0 hR1.h1 (ral_0 hR1) (fun h => by omega) (by omega) _ _ hP hD hS ls (lv_sub hl [0] rfl)

abbrev rm_X9_firstError : Room := { frames := 4, cells := 0, slots := 0, locals := 87 }
theorem k_X9_firstError : Cal yX9_firstError wsX9_firstError rm_X9_firstError cX9_firstError 1 (some .int) 0 0 0 := ⟨⟨_, rfl⟩, rfl, rfl, by decide +kernel⟩
set_option maxHeartbeats 4000000 in
set_option maxRecDepth 100000 in
theorem m_X9_firstError (l : Launch) (Γ : Gm) (sz : Nat) (a : Nat → Nat) (v : Nat → Int32) (hs : Int64) (g : Nat → Nat → Int32) (σ : Nat → Nat) (sc : Nat) (ss : Nat → Nat → Nat) (nb : Nat) (bb : Nat → Nat) (hX : MR σ sc ss nb bb v g)  : MWi (S := WtM) l yX9_firstError wsX9_firstError rm_X9_firstError Γ sz (wMd Γ a v hs g) [.ref (a 0)] (fun r u => MO (0) r (nI (errN bb nb)) (MR σ sc ss nb bb u.1 u.2.2) (MR σ sc ss nb bb u.1 u.2.2) (u.1 0)) (fun u => (wMd Γ a u.1 u.2.1 u.2.2)) 0 0 := by
  refine mW (cc := cX9_firstError) (maxL := 1) (ret := (some .int)) (own := RX9) (by decide) rfl rfl (Nat.le_of_ble_eq_true rfl) ?_
  intro p e s m args below meth c S hrt hlk hin hsz hK hP hD hA hS ls hl
  subst hsz
  generalize hAe : va_A (wMd Γ a v hs g) s.heap.size = A at hD hA hS ⊢
  obtain ⟨hx, hb, hml, hown, hts⟩ := id S
  obtain ⟨hM, hI, hc6, h1, h2, hBR, hSR⟩ := id hX
  have hl : lv_has ls 1 [(0, .ref (a 0))] := hl
  have hH : s.heap = s.heap := rfl
  refine lv_aload_n hx hb dX9_firstError_0 rfl (lv_at hl 0 rfl) ?_
  refine lv_iconst (v := nI 0) hx hb dX9_firstError_1 (by decide) ?_
  refine va_put (D := Γ.1) (ci := 9) (v := .int (nI 0)) (ty := .int) (C := RX9) (T := TX9) (N := 11) hx hb hts (by decide +kernel) tyX9 tyX9_ok nmX9 hown hK hP hD hS 0 rfl rfl 0 (by decide) (hts (.fieldLink RX9 22 "RowVeilsModel" "thrown" "I") (by decide +kernel)) (fun _ h9 => h9) rfl (by decide +kernel) rfl rfl (Nat.le_of_ble_eq_true rfl) dX9_firstError_2 (fun H locs hP hD hS => ?_)
  have hP : gP Γ [(a 0, .inr (9, [.int (nI 0), .ref (a 1), .ref (a 2), .int (v 1), .ref (a 3), .int (v 2), .int (v 3), .int (v 4), .ref (a 4), .int (v 5), .long hs])), (a 1, .inl (Γ.2.1, 130, .inl (g 0))), (a 2, .inl (Γ.2.1, 780, .inl (g 1))), (a 3, .inl (Γ.2.1, 60, .inl (g 2))), (a 4, .inl (Γ.2.1, 88, .inl (g 3)))] H := hP
  have hD : va_D A [(a 0, .inr (9, [.int (nI 0), .ref (a 1), .ref (a 2), .int (v 1), .ref (a 3), .int (v 2), .int (v 3), .int (v 4), .ref (a 4), .int (v 5), .long hs])), (a 1, .inl (Γ.2.1, 130, .inl (g 0))), (a 2, .inl (Γ.2.1, 780, .inl (g 1))), (a 3, .inl (Γ.2.1, 60, .inl (g 2))), (a 4, .inl (Γ.2.1, 88, .inl (g 3)))] := hD
  refine lv_aload_n hx hb dX9_firstError_5 rfl (lv_at hl 0 rfl) ?_
  refine cWv (As := []) (rest := []) (wr := []) (m_X9_readsAll l Γ _ a (va_up v 0 (nI 0)) hs g nb bb h2 hBR) S k_X9_readsAll gX9_firstError_X9_readsAll rfl ⟨Nat.le_of_ble_eq_true rfl, Nat.le_of_ble_eq_true rfl⟩ hK hP hD hS hA [0, 1, 2, 3, 4] [] rfl rfl (by decide) (by decide) (by decide) 0 (ci := 9) rfl rfl rfl rfl hl.1 (Nat.le_of_ble_eq_true rfl) rfl dX9_firstError_6 ⟨Nat.le_of_ble_eq_true rfl, Nat.le_of_ble_eq_true rfl⟩ (fun u H locs hr hP hD hS => ?_)
  obtain ⟨v1, q1, o1⟩ := u
  obtain ⟨hA1, hU1, hg0, hg1, hg2⟩ := hr
  have e1 : hs = q1 := hU1.symm
  subst e1
  have hg0 : o1 0 = g 0 := hg0
  have hg1 : o1 1 = g 1 := hg1
  have hg2 : o1 2 = g 2 := hg2
  have hP : gP Γ [(a 0, .inr (9, [.int (v1 0), .ref (a 1), .ref (a 2), .int (v1 1), .ref (a 3), .int (v1 2), .int (v1 3), .int (v1 4), .ref (a 4), .int (v1 5), .long hs])), (a 1, .inl (Γ.2.1, 130, .inl (o1 0))), (a 2, .inl (Γ.2.1, 780, .inl (o1 1))), (a 3, .inl (Γ.2.1, 60, .inl (o1 2))), (a 4, .inl (Γ.2.1, 88, .inl (o1 3)))] H := hP
  have hD : va_D A [(a 0, .inr (9, [.int (v1 0), .ref (a 1), .ref (a 2), .int (v1 1), .ref (a 3), .int (v1 2), .int (v1 3), .int (v1 4), .ref (a 4), .int (v1 5), .long hs])), (a 1, .inl (Γ.2.1, 130, .inl (o1 0))), (a 2, .inl (Γ.2.1, 780, .inl (o1 1))), (a 3, .inl (Γ.2.1, 60, .inl (o1 2))), (a 4, .inl (Γ.2.1, 88, .inl (o1 3)))] := hD
  rw [hg0, hg1, hg2] at hP hD
  have h1_1 : v1 1 = nI sc := hA1.h1.trans h1
  have h2_1 : v1 2 = nI nb := hA1.h2.trans h2
  have hP : gP Γ [(a 0, .inr (9, [.int (v1 0), .ref (a 1), .ref (a 2), .int (v1 1), .ref (a 3), .int (v1 2), .int (v1 3), .int (v1 4), .ref (a 4), .int (v1 5), .long hs])), (a 1, .inl (Γ.2.1, 130, .inl (g 0))), (a 2, .inl (Γ.2.1, 780, .inl (g 1))), (a 3, .inl (Γ.2.1, 60, .inl (g 2))), (a 4, .inl (Γ.2.1, 88, .inl (o1 3)))] H := hP
  have hD : va_D A [(a 0, .inr (9, [.int (v1 0), .ref (a 1), .ref (a 2), .int (v1 1), .ref (a 3), .int (v1 2), .int (v1 3), .int (v1 4), .ref (a 4), .int (v1 5), .long hs])), (a 1, .inl (Γ.2.1, 130, .inl (g 0))), (a 2, .inl (Γ.2.1, 780, .inl (g 1))), (a 3, .inl (Γ.2.1, 60, .inl (g 2))), (a 4, .inl (Γ.2.1, 88, .inl (o1 3)))] := hD
  refine lv_aload_n hx hb dX9_firstError_9 rfl (lv_at hl 0 rfl) ?_
  refine va_get (D := Γ.1) (ci := 9) (v := .int (v1 3)) (C := RX9) (T := TX9) (N := 11) hx hb hts (by decide +kernel) hown hK hP 0 rfl rfl 6 (by decide) (hts (.fieldLink RX9 120 "RowVeilsModel" "at" "I") (by decide +kernel)) (fun _ h9 => h9) rfl dX9_firstError_10 ?_
  refine asi (z := nI (errN bb nb)) (hA1.h3) ?_
  exact W.iret (v := nI (errN bb nb)) hx hb hrt (fun t9 ht9 hW9 => ⟨⟨_, (v1, hs, va_up g 3 (o1 3)), rfl, MO.ok rfl hA1.h0 rfl ⟨hM, hI, hc6, h1_1, h2_1, hBR, hSR⟩, wd_end hK hP hD [0, 1, 2, 3, 4] (by decide) rfl t9 ht9 hW9⟩, hS.F ht9⟩) hS.2.2 dX9_firstError_13 hlk

abbrev rm_X9_rows : Room := { frames := 4, cells := 0, slots := 0, locals := 87 }
theorem k_X9_rows : Cal yX9_rows wsX9_rows rm_X9_rows cX9_rows 2 (some .int) 0 0 0 := ⟨⟨_, rfl⟩, rfl, rfl, by decide +kernel⟩
set_option maxHeartbeats 4000000 in
set_option maxRecDepth 100000 in
theorem m_X9_rows (l : Launch) (Γ : Gm) (sz : Nat) (a : Nat → Nat) (v : Nat → Int32) (hs : Int64) (g : Nat → Nat → Int32) (σ : Nat → Nat) (sc : Nat) (ss : Nat → Nat → Nat) (nb : Nat) (bb : Nat → Nat) (hX : MR σ sc ss nb bb v g)  : MWi (S := WtM) l yX9_rows wsX9_rows rm_X9_rows Γ sz (wMd Γ a v hs g) [.ref (a 0)] (fun r u => MO (rsC bb nb) r (nI (cmeN σ bb nb)) (MR (rdsS σ bb nb) (svC sc) (svS sc ss σ) 0 bb u.1 u.2.2) (MR σ sc ss nb bb u.1 u.2.2) (u.1 0)) (fun u => (wMd Γ a u.1 u.2.1 u.2.2)) 0 0 := by
  refine mW (cc := cX9_rows) (maxL := 2) (ret := (some .int)) (own := RX9) (by decide) rfl rfl (Nat.le_of_ble_eq_true rfl) ?_
  intro p e s m args below meth c S hrt hlk hin hsz hK hP hD hA hS ls hl
  subst hsz
  generalize hAe : va_A (wMd Γ a v hs g) s.heap.size = A at hD hA hS ⊢
  obtain ⟨hx, hb, hml, hown, hts⟩ := id S
  obtain ⟨hM, hI, hc6, h1, h2, hBR, hSR⟩ := id hX
  have hn6 := hBR.1
  have hn := hI.n
  have hpl := prt_le bb nb (nb + 1)
  have hl : lv_has ls 2 [(0, .ref (a 0))] := hl
  have L_33 : ∀ (fuel : Nat), ∀ (vv : Nat → Int32) (g0 : Nat → Int32) (sv : Nat → Int32) (gg : Nat → Int32) (k : Nat) (n_13 : cplQ bb nb = true) (h0v : vv 0 = nI 0) (h1v : vv 1 = nI (svC sc)) (h2v : vv 2 = nI 0) (h5v : vv 5 = nI (prt bb nb (nb + 1))) (hgg : ∀ j q, j < prt bb nb (nb + 1) → q < 4 → gg (4 * j + q) = nI ((tab bb nb (nb + 1)) j q)) (hSV : SR (svC sc) (svS sc ss σ) sv) (hAk : RepM (addN σ (tab bb nb (nb + 1)) k) g0) (hk : k ≤ cmeN σ bb nb) (hfk : 16 - k < fuel), ∀ (H : Heap) (locs : List Loc), gP Γ [(a 0, .inr (9, [.int (vv 0), .ref (a 1), .ref (a 2), .int (vv 1), .ref (a 3), .int (vv 2), .int (vv 3), .int (vv 4), .ref (a 4), .int (vv 5), .long hs])), (a 1, .inl (Γ.2.1, 130, .inl g0)), (a 2, .inl (Γ.2.1, 780, .inl sv)), (a 3, .inl (Γ.2.1, 60, .inl (g 2))), (a 4, .inl (Γ.2.1, 88, .inl gg))] H → va_D A [(a 0, .inr (9, [.int (vv 0), .ref (a 1), .ref (a 2), .int (vv 1), .ref (a 3), .int (vv 2), .int (vv 3), .int (vv 4), .ref (a 4), .int (vv 5), .long hs])), (a 1, .inl (Γ.2.1, 130, .inl g0)), (a 2, .inl (Γ.2.1, 780, .inl sv)), (a 3, .inl (Γ.2.1, 60, .inl (g 2))), (a 4, .inl (Γ.2.1, 88, .inl gg))] → va_S A s.heap H locs → ∀ ls : Array Slot, lv_has ls 2 [(0, .ref (a 0)), (1, .int (nI k))] → W p l e rm_X9_rows s m args below meth c H locs 0 0 (MQ below (va_Qi (S := WtM) (fun r u => MO (rsC bb nb) r (nI (cmeN σ bb nb)) (MR (rdsS σ bb nb) (svC sc) (svS sc ss σ) 0 bb u.1 u.2.2) (MR σ sc ss nb bb u.1 u.2.2) (u.1 0)) (fun u t9 => wd Γ A ((wMd Γ a u.1 u.2.1 u.2.2)) t9) A) args s 0 0 A) (F0 m 33 ls []) := by
    intro fuel
    induction fuel with
    | zero => intro vv g0 sv gg k n_13 h0v h1v h2v h5v hgg hSV hAk hk hfk; exact absurd hfk (by omega)
    | succ fuel ih_33 =>
      intro vv g0 sv gg k n_13 h0v h1v h2v h5v hgg hSV hAk hk hfk H locs hP hD hS ls hl
      have hk0 := hk
      unfold cmeN at hk0
      have hIk : Inv (addN σ (tab bb nb (nb + 1)) k) := addN_I hI (by omega) (fun j hj => tab_ok n_13 (Nat.le_refl _) j (by omega))
      refine lv_iload_n hx hb dX9_rows_33 rfl (lv_at hl 1 rfl) ?_
      refine lv_aload_n hx hb dX9_rows_34 rfl (lv_at hl 0 rfl) ?_
      refine va_get (D := Γ.1) (ci := 9) (v := .int (vv 5)) (C := RX9) (T := TX9) (N := 11) hx hb hts (by decide +kernel) hown hK hP 0 rfl rfl 9 (by decide) (hts (.fieldLink RX9 131 "RowVeilsModel" "readMany" "I") (by decide +kernel)) (fun _ h9 => h9) rfl dX9_rows_35 ?_
      refine asi (z := nI (prt bb nb (nb + 1))) (h5v) ?_
      refine lv_icmp_ge (tgt := 100) hx hb dX9_rows_38 (by decide) (fun c_38 => ?_) (fun c_38 => ?_)
      · have n_38 := (nI_leI (a := (prt bb nb (nb + 1))) (b := k) (by omega) (by omega)).mp c_38
        have hke : k = cmeN σ bb nb := by unfold cmeN; omega
        refine lv_iload_n hx hb dX9_rows_100 rfl (lv_at hl 1 rfl) ?_
        exact W.iret (v := nI k) hx hb hrt (fun t9 ht9 hW9 => ⟨⟨_, (vv, hs, va_up (va_up (va_up g 0 g0) 1 sv) 3 gg), rfl, MO.ok (by unfold rsC; rw [if_neg (by rw [n_13]; decide)]) h0v (congrArg nI hke) (by unfold rdsS; rw [← hke]; exact ⟨hAk, hIk, Nat.min_le_right _ _, h1v, h2v, ⟨by omega, fun i hi => absurd hi (Nat.not_lt_zero i)⟩, hSV⟩), wd_end hK hP hD [0, 1, 2, 3, 4] (by decide) rfl t9 ht9 hW9⟩, hS.F ht9⟩) hS.2.2 dX9_rows_101 hlk
      · have n_38 := Nat.not_le.mp ((not_congr (nI_leI (a := prt bb nb (nb + 1)) (b := k) (by omega) (by omega))).mp c_38)
        refine lv_aload_n hx hb dX9_rows_41 rfl (lv_at hl 0 rfl) ?_
        refine va_get (D := Γ.1) (ci := 9) (v := .ref (a 1)) (C := RX9) (T := TX9) (N := 11) hx hb hts (by decide +kernel) hown hK hP 0 rfl rfl 1 (by decide) (hts (.fieldLink RX9 7 "RowVeilsModel" "s" "[I") (by decide +kernel)) (fun _ h9 => h9) rfl dX9_rows_42 ?_
        refine lv_iconst (v := nI 0) hx hb dX9_rows_45 (by decide) ?_
        refine va_iald hx hb hK hP 1 0 rfl rfl (vp_in_nI (by omega) (by omega)) dX9_rows_46 ?_
        refine asi (z := nI (σ 0 + k)) ((congrArg _ (nI_clamp (by omega))).trans ((hAk 0 (by decide)).trans (congrArg nI (addN_0 _ _ _)))) ?_
        refine lv_bipush (v := nI 16) hx hb dX9_rows_47 (by decide) ?_
        refine lv_icmp_ge (tgt := 100) hx hb dX9_rows_49 (by decide) (fun c_49 => ?_) (fun c_49 => ?_)
        · have n_49 := (nI_leI (a := 16) (b := (σ 0 + k)) (by omega) (by omega)).mp c_49
          have hke : k = cmeN σ bb nb := by unfold cmeN; omega
          refine lv_iload_n hx hb dX9_rows_100 rfl (lv_at hl 1 rfl) ?_
          exact W.iret (v := nI k) hx hb hrt (fun t9 ht9 hW9 => ⟨⟨_, (vv, hs, va_up (va_up (va_up g 0 g0) 1 sv) 3 gg), rfl, MO.ok (by unfold rsC; rw [if_neg (by rw [n_13]; decide)]) h0v (congrArg nI hke) (by unfold rdsS; rw [← hke]; exact ⟨hAk, hIk, Nat.min_le_right _ _, h1v, h2v, ⟨by omega, fun i hi => absurd hi (Nat.not_lt_zero i)⟩, hSV⟩), wd_end hK hP hD [0, 1, 2, 3, 4] (by decide) rfl t9 ht9 hW9⟩, hS.F ht9⟩) hS.2.2 dX9_rows_101 hlk
        · have n_49 := (not_congr (nI_leI (a := 16) (b := (σ 0 + k)) (by omega) (by omega))).mp c_49
          refine lv_aload_n hx hb dX9_rows_52 rfl (lv_at hl 0 rfl) ?_
          refine lv_aload_n hx hb dX9_rows_53 rfl (lv_at hl 0 rfl) ?_
          refine va_get (D := Γ.1) (ci := 9) (v := .ref (a 4)) (C := RX9) (T := TX9) (N := 11) hx hb hts (by decide +kernel) hown hK hP 0 rfl rfl 8 (by decide) (hts (.fieldLink RX9 19 "RowVeilsModel" "read" "[I") (by decide +kernel)) (fun _ h9 => h9) rfl dX9_rows_54 ?_
          refine lv_iconst (v := nI 4) hx hb dX9_rows_57 (by decide) ?_
          refine lv_iload_n hx hb dX9_rows_58 rfl (lv_at hl 1 rfl) ?_
          refine lv_imul hx hb dX9_rows_59 ?_
          refine asi (z := nI (4 * k)) (pk_mul _ _) ?_
          refine va_iald hx hb hK hP 4 0 rfl rfl (vp_in_nI (by omega) (by omega)) dX9_rows_60 ?_
          refine asi (z := nI ((tab bb nb (nb + 1)) k 0)) ((congrArg _ (nI_clamp (by omega))).trans (hgg k 0 n_38 (by decide))) ?_
          refine lv_aload_n hx hb dX9_rows_61 rfl (lv_at hl 0 rfl) ?_
          refine va_get (D := Γ.1) (ci := 9) (v := .ref (a 4)) (C := RX9) (T := TX9) (N := 11) hx hb hts (by decide +kernel) hown hK hP 0 rfl rfl 8 (by decide) (hts (.fieldLink RX9 19 "RowVeilsModel" "read" "[I") (by decide +kernel)) (fun _ h9 => h9) rfl dX9_rows_62 ?_
          refine lv_iconst (v := nI 4) hx hb dX9_rows_65 (by decide) ?_
          refine lv_iload_n hx hb dX9_rows_66 rfl (lv_at hl 1 rfl) ?_
          refine lv_imul hx hb dX9_rows_67 ?_
          refine asi (z := nI (4 * k)) (pk_mul _ _) ?_
          refine lv_iconst (v := nI 1) hx hb dX9_rows_68 (by decide) ?_
          refine lv_iadd hx hb dX9_rows_69 ?_
          refine asi (z := nI ((4 * k) + 1)) (nI_add _ _) ?_
          refine va_iald hx hb hK hP 4 0 rfl rfl (vp_in_nI (by omega) (by omega)) dX9_rows_70 ?_
          refine asi (z := nI ((tab bb nb (nb + 1)) k 1)) ((congrArg _ (nI_clamp (by omega))).trans (hgg k 1 n_38 (by decide))) ?_
          refine lv_aload_n hx hb dX9_rows_71 rfl (lv_at hl 0 rfl) ?_
          refine va_get (D := Γ.1) (ci := 9) (v := .ref (a 4)) (C := RX9) (T := TX9) (N := 11) hx hb hts (by decide +kernel) hown hK hP 0 rfl rfl 8 (by decide) (hts (.fieldLink RX9 19 "RowVeilsModel" "read" "[I") (by decide +kernel)) (fun _ h9 => h9) rfl dX9_rows_72 ?_
          refine lv_iconst (v := nI 4) hx hb dX9_rows_75 (by decide) ?_
          refine lv_iload_n hx hb dX9_rows_76 rfl (lv_at hl 1 rfl) ?_
          refine lv_imul hx hb dX9_rows_77 ?_
          refine asi (z := nI (4 * k)) (pk_mul _ _) ?_
          refine lv_iconst (v := nI 2) hx hb dX9_rows_78 (by decide) ?_
          refine lv_iadd hx hb dX9_rows_79 ?_
          refine asi (z := nI ((4 * k) + 2)) (nI_add _ _) ?_
          refine va_iald hx hb hK hP 4 0 rfl rfl (vp_in_nI (by omega) (by omega)) dX9_rows_80 ?_
          refine asi (z := nI ((tab bb nb (nb + 1)) k 2)) ((congrArg _ (nI_clamp (by omega))).trans (hgg k 2 n_38 (by decide))) ?_
          refine lv_aload_n hx hb dX9_rows_81 rfl (lv_at hl 0 rfl) ?_
          refine va_get (D := Γ.1) (ci := 9) (v := .ref (a 4)) (C := RX9) (T := TX9) (N := 11) hx hb hts (by decide +kernel) hown hK hP 0 rfl rfl 8 (by decide) (hts (.fieldLink RX9 19 "RowVeilsModel" "read" "[I") (by decide +kernel)) (fun _ h9 => h9) rfl dX9_rows_82 ?_
          refine lv_iconst (v := nI 4) hx hb dX9_rows_85 (by decide) ?_
          refine lv_iload_n hx hb dX9_rows_86 rfl (lv_at hl 1 rfl) ?_
          refine lv_imul hx hb dX9_rows_87 ?_
          refine asi (z := nI (4 * k)) (pk_mul _ _) ?_
          refine lv_iconst (v := nI 3) hx hb dX9_rows_88 (by decide) ?_
          refine lv_iadd hx hb dX9_rows_89 ?_
          refine asi (z := nI ((4 * k) + 3)) (nI_add _ _) ?_
          refine va_iald hx hb hK hP 4 0 rfl rfl (vp_in_nI (by omega) (by omega)) dX9_rows_90 ?_
          refine asi (z := nI ((tab bb nb (nb + 1)) k 3)) ((congrArg _ (nI_clamp (by omega))).trans (hgg k 3 n_38 (by decide))) ?_
          refine cWv (As := [.int (nI ((tab bb nb (nb + 1)) k 0)), .int (nI ((tab bb nb (nb + 1)) k 1)), .int (nI ((tab bb nb (nb + 1)) k 2)), .int (nI ((tab bb nb (nb + 1)) k 3))]) (rest := []) (wr := []) (m_X9_adds l Γ _ a vv hs (va_up (va_up (va_up g 0 g0) 1 sv) 3 gg) (addN σ (tab bb nb (nb + 1)) k) hAk hIk ((tab bb nb (nb + 1)) k 0) ((tab bb nb (nb + 1)) k 1) ((tab bb nb (nb + 1)) k 2) ((tab bb nb (nb + 1)) k 3) (by rw [addN_0]; omega)) S k_X9_adds gX9_rows_X9_adds rfl ⟨Nat.le_of_ble_eq_true rfl, Nat.le_of_ble_eq_true rfl⟩ hK hP hD hS hA [0, 1, 2, 3, 4] [] rfl rfl (by decide) (by decide) (by decide) 0 (ci := 9) rfl rfl rfl rfl hl.1 (Nat.le_of_ble_eq_true rfl) rfl dX9_rows_91 ⟨Nat.le_of_ble_eq_true rfl, Nat.le_of_ble_eq_true rfl⟩ (fun u H locs hr hP hD hS => ?_)
          obtain ⟨ad1, e_ad1⟩ : ∃ x, x = u := ⟨u, rfl⟩
          subst e_ad1
          have hP : gP Γ [(a 0, .inr (9, [.int (vv 0), .ref (a 1), .ref (a 2), .int (vv 1), .ref (a 3), .int (vv 2), .int (vv 3), .int (vv 4), .ref (a 4), .int (vv 5), .long hs])), (a 1, .inl (Γ.2.1, 130, .inl ad1)), (a 2, .inl (Γ.2.1, 780, .inl sv)), (a 3, .inl (Γ.2.1, 60, .inl (g 2))), (a 4, .inl (Γ.2.1, 88, .inl gg))] H := hP
          have hD : va_D A [(a 0, .inr (9, [.int (vv 0), .ref (a 1), .ref (a 2), .int (vv 1), .ref (a 3), .int (vv 2), .int (vv 3), .int (vv 4), .ref (a 4), .int (vv 5), .long hs])), (a 1, .inl (Γ.2.1, 130, .inl ad1)), (a 2, .inl (Γ.2.1, 780, .inl sv)), (a 3, .inl (Γ.2.1, 60, .inl (g 2))), (a 4, .inl (Γ.2.1, 88, .inl gg))] := hD
          have hAD := hr
          refine lv_iinc (v := nI (k + 1)) (lv' := [(1, .int (nI (k + 1))), (0, .ref (a 0))]) hx hb dX9_rows_94 hl (k := 1) rfl (nI_add _ _) (by decide) rfl (fun ls hl => ?_)
          refine lv_goto (tgt := 33) hx hb dX9_rows_97 (by decide) ?_
          exact ih_33 vv ad1 sv gg (k + 1) n_13 h0v h1v h2v h5v hgg hSV hAD (by unfold cmeN; omega) (by omega) _ _ hP hD hS ls (lv_sub hl [1, 0] rfl)
  have hH : s.heap = s.heap := rfl
  refine lv_aload_n hx hb dX9_rows_0 rfl (lv_at hl 0 rfl) ?_
  refine lv_iconst (v := nI 0) hx hb dX9_rows_1 (by decide) ?_
  refine va_put (D := Γ.1) (ci := 9) (v := .int (nI 0)) (ty := .int) (C := RX9) (T := TX9) (N := 11) hx hb hts (by decide +kernel) tyX9 tyX9_ok nmX9 hown hK hP hD hS 0 rfl rfl 0 (by decide) (hts (.fieldLink RX9 22 "RowVeilsModel" "thrown" "I") (by decide +kernel)) (fun _ h9 => h9) rfl (by decide +kernel) rfl rfl (Nat.le_of_ble_eq_true rfl) dX9_rows_2 (fun H locs hP hD hS => ?_)
  have hP : gP Γ [(a 0, .inr (9, [.int (nI 0), .ref (a 1), .ref (a 2), .int (v 1), .ref (a 3), .int (v 2), .int (v 3), .int (v 4), .ref (a 4), .int (v 5), .long hs])), (a 1, .inl (Γ.2.1, 130, .inl (g 0))), (a 2, .inl (Γ.2.1, 780, .inl (g 1))), (a 3, .inl (Γ.2.1, 60, .inl (g 2))), (a 4, .inl (Γ.2.1, 88, .inl (g 3)))] H := hP
  have hD : va_D A [(a 0, .inr (9, [.int (nI 0), .ref (a 1), .ref (a 2), .int (v 1), .ref (a 3), .int (v 2), .int (v 3), .int (v 4), .ref (a 4), .int (v 5), .long hs])), (a 1, .inl (Γ.2.1, 130, .inl (g 0))), (a 2, .inl (Γ.2.1, 780, .inl (g 1))), (a 3, .inl (Γ.2.1, 60, .inl (g 2))), (a 4, .inl (Γ.2.1, 88, .inl (g 3)))] := hD
  refine lv_aload_n hx hb dX9_rows_5 rfl (lv_at hl 0 rfl) ?_
  refine cWv (As := []) (rest := []) (wr := []) (m_X9_readsAll l Γ _ a (va_up v 0 (nI 0)) hs g nb bb h2 hBR) S k_X9_readsAll gX9_rows_X9_readsAll rfl ⟨Nat.le_of_ble_eq_true rfl, Nat.le_of_ble_eq_true rfl⟩ hK hP hD hS hA [0, 1, 2, 3, 4] [] rfl rfl (by decide) (by decide) (by decide) 0 (ci := 9) rfl rfl rfl rfl hl.1 (Nat.le_of_ble_eq_true rfl) rfl dX9_rows_6 ⟨Nat.le_of_ble_eq_true rfl, Nat.le_of_ble_eq_true rfl⟩ (fun u H locs hr hP hD hS => ?_)
  obtain ⟨v1, q1, o1⟩ := u
  obtain ⟨hA1, hU1, hg0, hg1, hg2⟩ := hr
  have e1 : hs = q1 := hU1.symm
  subst e1
  have hg0 : o1 0 = g 0 := hg0
  have hg1 : o1 1 = g 1 := hg1
  have hg2 : o1 2 = g 2 := hg2
  have hP : gP Γ [(a 0, .inr (9, [.int (v1 0), .ref (a 1), .ref (a 2), .int (v1 1), .ref (a 3), .int (v1 2), .int (v1 3), .int (v1 4), .ref (a 4), .int (v1 5), .long hs])), (a 1, .inl (Γ.2.1, 130, .inl (o1 0))), (a 2, .inl (Γ.2.1, 780, .inl (o1 1))), (a 3, .inl (Γ.2.1, 60, .inl (o1 2))), (a 4, .inl (Γ.2.1, 88, .inl (o1 3)))] H := hP
  have hD : va_D A [(a 0, .inr (9, [.int (v1 0), .ref (a 1), .ref (a 2), .int (v1 1), .ref (a 3), .int (v1 2), .int (v1 3), .int (v1 4), .ref (a 4), .int (v1 5), .long hs])), (a 1, .inl (Γ.2.1, 130, .inl (o1 0))), (a 2, .inl (Γ.2.1, 780, .inl (o1 1))), (a 3, .inl (Γ.2.1, 60, .inl (o1 2))), (a 4, .inl (Γ.2.1, 88, .inl (o1 3)))] := hD
  rw [hg0, hg1, hg2] at hP hD
  have h1_1 : v1 1 = nI sc := hA1.h1.trans h1
  have h2_1 : v1 2 = nI nb := hA1.h2.trans h2
  have hP : gP Γ [(a 0, .inr (9, [.int (v1 0), .ref (a 1), .ref (a 2), .int (v1 1), .ref (a 3), .int (v1 2), .int (v1 3), .int (v1 4), .ref (a 4), .int (v1 5), .long hs])), (a 1, .inl (Γ.2.1, 130, .inl (g 0))), (a 2, .inl (Γ.2.1, 780, .inl (g 1))), (a 3, .inl (Γ.2.1, 60, .inl (g 2))), (a 4, .inl (Γ.2.1, 88, .inl (o1 3)))] H := hP
  have hD : va_D A [(a 0, .inr (9, [.int (v1 0), .ref (a 1), .ref (a 2), .int (v1 1), .ref (a 3), .int (v1 2), .int (v1 3), .int (v1 4), .ref (a 4), .int (v1 5), .long hs])), (a 1, .inl (Γ.2.1, 130, .inl (g 0))), (a 2, .inl (Γ.2.1, 780, .inl (g 1))), (a 3, .inl (Γ.2.1, 60, .inl (g 2))), (a 4, .inl (Γ.2.1, 88, .inl (o1 3)))] := hD
  refine lv_aload_n hx hb dX9_rows_9 rfl (lv_at hl 0 rfl) ?_
  refine va_get (D := Γ.1) (ci := 9) (v := .int (v1 4)) (C := RX9) (T := TX9) (N := 11) hx hb hts (by decide +kernel) hown hK hP 0 rfl rfl 7 (by decide) (hts (.fieldLink RX9 123 "RowVeilsModel" "isWell" "Z") (by decide +kernel)) (fun _ h9 => h9) rfl dX9_rows_10 ?_
  refine asi (z := bI (cplQ bb nb)) (hA1.h4) ?_
  refine lv_if_ne (tgt := 22) hx hb dX9_rows_13 (by decide) (fun c_13 => ?_) (fun c_13 => ?_)
  · have n_13 := bI_nz.mp c_13
    refine lv_aload_n hx hb dX9_rows_22 rfl (lv_at hl 0 rfl) ?_
    refine cWv (As := []) (rest := []) (wr := []) (m_X9_saves l Γ _ a v1 hs (va_up g 3 (o1 3)) σ sc ss h1_1 hc6 hM hI hSR) S k_X9_saves gX9_rows_X9_saves rfl ⟨Nat.le_of_ble_eq_true rfl, Nat.le_of_ble_eq_true rfl⟩ hK hP hD hS hA [0, 1, 2, 3, 4] [] rfl rfl (by decide) (by decide) (by decide) 0 (ci := 9) rfl rfl rfl rfl hl.1 (Nat.le_of_ble_eq_true rfl) rfl dX9_rows_23 ⟨Nat.le_of_ble_eq_true rfl, Nat.le_of_ble_eq_true rfl⟩ (fun u H locs hr hP hD hS => ?_)
    obtain ⟨sv1, e_sv1⟩ : ∃ x, x = u := ⟨u, rfl⟩
    subst e_sv1
    have hP : gP Γ [(a 0, .inr (9, [.int (v1 0), .ref (a 1), .ref (a 2), .int (nI (svC sc)), .ref (a 3), .int (v1 2), .int (v1 3), .int (v1 4), .ref (a 4), .int (v1 5), .long hs])), (a 1, .inl (Γ.2.1, 130, .inl (g 0))), (a 2, .inl (Γ.2.1, 780, .inl sv1)), (a 3, .inl (Γ.2.1, 60, .inl (g 2))), (a 4, .inl (Γ.2.1, 88, .inl (o1 3)))] H := hP
    have hD : va_D A [(a 0, .inr (9, [.int (v1 0), .ref (a 1), .ref (a 2), .int (nI (svC sc)), .ref (a 3), .int (v1 2), .int (v1 3), .int (v1 4), .ref (a 4), .int (v1 5), .long hs])), (a 1, .inl (Γ.2.1, 130, .inl (g 0))), (a 2, .inl (Γ.2.1, 780, .inl sv1)), (a 3, .inl (Γ.2.1, 60, .inl (g 2))), (a 4, .inl (Γ.2.1, 88, .inl (o1 3)))] := hD
    have hSV := hr
    refine lv_aload_n hx hb dX9_rows_26 rfl (lv_at hl 0 rfl) ?_
    refine lv_iconst (v := nI 0) hx hb dX9_rows_27 (by decide) ?_
    refine va_put (D := Γ.1) (ci := 9) (v := .int (nI 0)) (ty := .int) (C := RX9) (T := TX9) (N := 11) hx hb hts (by decide +kernel) tyX9 tyX9_ok nmX9 hown hK hP hD hS 0 rfl rfl 5 (by decide) (hts (.fieldLink RX9 117 "RowVeilsModel" "length" "I") (by decide +kernel)) (fun _ h9 => h9) rfl (by decide +kernel) rfl rfl (Nat.le_of_ble_eq_true rfl) dX9_rows_28 (fun H locs hP hD hS => ?_)
    have hP : gP Γ [(a 0, .inr (9, [.int (v1 0), .ref (a 1), .ref (a 2), .int (nI (svC sc)), .ref (a 3), .int (nI 0), .int (v1 3), .int (v1 4), .ref (a 4), .int (v1 5), .long hs])), (a 1, .inl (Γ.2.1, 130, .inl (g 0))), (a 2, .inl (Γ.2.1, 780, .inl sv1)), (a 3, .inl (Γ.2.1, 60, .inl (g 2))), (a 4, .inl (Γ.2.1, 88, .inl (o1 3)))] H := hP
    have hD : va_D A [(a 0, .inr (9, [.int (v1 0), .ref (a 1), .ref (a 2), .int (nI (svC sc)), .ref (a 3), .int (nI 0), .int (v1 3), .int (v1 4), .ref (a 4), .int (v1 5), .long hs])), (a 1, .inl (Γ.2.1, 130, .inl (g 0))), (a 2, .inl (Γ.2.1, 780, .inl sv1)), (a 3, .inl (Γ.2.1, 60, .inl (g 2))), (a 4, .inl (Γ.2.1, 88, .inl (o1 3)))] := hD
    refine lv_iconst (v := nI 0) hx hb dX9_rows_31 (by decide) ?_
    refine lv_istore_n (lv' := [(1, .int (nI 0)), (0, .ref (a 0))]) hx hb dX9_rows_32 rfl hl (by decide) rfl (fun ls hl => ?_)
    exact L_33 17 (va_up (va_up v1 1 (nI (svC sc))) 2 (nI 0)) (g 0) sv1 (o1 3) 0 n_13 hA1.h0 rfl rfl ((hA1.hw n_13).1) ((hA1.hw n_13).2) hSV hM (by omega) (by omega) _ _ hP hD hS ls (lv_sub hl [1, 0] rfl)
  · have n_13 := bI_z.mp c_13
    refine lv_aload_n hx hb dX9_rows_16 rfl (lv_at hl 0 rfl) ?_
    refine lv_iconst (v := nI 1) hx hb dX9_rows_17 (by decide) ?_
    refine cWi (As := [.int (nI 1)]) (rest := []) (wr := []) (m_X9_fails l Γ _ a v1 hs (va_up g 3 (o1 3)) (nI 1)) S k_X9_fails gX9_rows_X9_fails rfl ⟨Nat.le_of_ble_eq_true rfl, Nat.le_of_ble_eq_true rfl⟩ hK hP hD hS hA [0, 1, 2, 3, 4] [] rfl rfl (by decide) (by decide) (by decide) 0 (ci := 9) rfl rfl rfl rfl hl.1 (Nat.le_of_ble_eq_true rfl) rfl dX9_rows_18 ⟨Nat.le_of_ble_eq_true rfl, Nat.le_of_ble_eq_true rfl⟩ (fun r u H locs hr hP hD hS => ?_)
    have hP : gP Γ [(a 0, .inr (9, [.int (nI 1), .ref (a 1), .ref (a 2), .int (v1 1), .ref (a 3), .int (v1 2), .int (v1 3), .int (v1 4), .ref (a 4), .int (v1 5), .long hs])), (a 1, .inl (Γ.2.1, 130, .inl (g 0))), (a 2, .inl (Γ.2.1, 780, .inl (g 1))), (a 3, .inl (Γ.2.1, 60, .inl (g 2))), (a 4, .inl (Γ.2.1, 88, .inl (o1 3)))] H := hP
    have hD : va_D A [(a 0, .inr (9, [.int (nI 1), .ref (a 1), .ref (a 2), .int (v1 1), .ref (a 3), .int (v1 2), .int (v1 3), .int (v1 4), .ref (a 4), .int (v1 5), .long hs])), (a 1, .inl (Γ.2.1, 130, .inl (g 0))), (a 2, .inl (Γ.2.1, 780, .inl (g 1))), (a 3, .inl (Γ.2.1, 60, .inl (g 2))), (a 4, .inl (Γ.2.1, 88, .inl (o1 3)))] := hD
    subst hr
    exact W.iret (v := nI 0) hx hb hrt (fun t9 ht9 hW9 => ⟨⟨_, (va_up v1 0 (nI 1), hs, va_up g 3 (o1 3)), rfl, MO.bad (k := 0) (by unfold rsC; rw [if_pos n_13]) rfl rfl ⟨hM, hI, hc6, h1_1, h2_1, hBR, hSR⟩, wd_end hK hP hD [0, 1, 2, 3, 4] (by decide) rfl t9 ht9 hW9⟩, hS.F ht9⟩) hS.2.2 dX9_rows_21 hlk

