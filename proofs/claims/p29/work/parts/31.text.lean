/-! The input text: codes, and the reading of it. -/
def sI (k : Nat) : Int32 := if k = 8 then -1 else nI k
theorem sI_m1 {k : Nat} (h : k ≤ 8) : sI k = -1 ↔ k = 8 := (show ∀ j, j < 9 → (sI j = -1 ↔ j = 8) by decide) k (by omega)
theorem sI_lt3 {k : Nat} (h : k ≤ 8) : sI k < nI 3 ↔ k < 3 ∨ k = 8 := (show ∀ j, j < 9 → (sI j < nI 3 ↔ j < 3 ∨ j = 8) by decide) k (by omega)
def digQ (x : Nat) : Bool := decide (48 ≤ x) && decide (x ≤ 57)
theorem digQ_t {x : Nat} : digQ x = true ↔ 48 ≤ x ∧ x ≤ 57 := by unfold digQ; simp only [Bool.and_eq_true, decide_eq_true_eq]
theorem digQ_f {x : Nat} (h : ¬ (48 ≤ x ∧ x ≤ 57)) : digQ x = false := Bool.eq_false_iff.mpr (fun q => h (digQ_t.mp q))
def plN (x : Nat) : Nat := if x = 110 then 0 else if x = 101 then 1 else if x = 115 then 2 else if x = 119 then 3 else 4
def plI (x : Nat) : Int32 := if plN x = 4 then -1 else nI (plN x)
theorem plN_le (x : Nat) : plN x ≤ 4 := by unfold plN; (repeat' split) <;> omega
theorem plI_m1 {x : Nat} : plI x = -1 ↔ plN x = 4 := by
  have h := plN_le x
  unfold plI
  by_cases e : plN x = 4
  · rw [if_pos e]; exact ⟨fun _ => e, fun _ => rfl⟩
  · rw [if_neg e]; exact ⟨fun q => absurd q (nI_m1 (by omega)), fun q => absurd q e⟩
theorem plI_n {x : Nat} (h : plN x < 4) : plI x = nI (plN x) := if_neg (by omega)
def spv (k x : Nat) : Nat := if x = 44 then 0 else if x = 33 ∧ 4 ≤ k ∧ k < 7 then k + 1 else 8
def stp (k x : Nat) : Nat := if k = 0 then (if 48 ≤ x ∧ x < 53 then 1 else 8) else if k = 1 then (if plN x = 4 then 8 else 2) else if k = 2 then (if x = 48 then 4 else if digQ x = true then 3 else 8) else if k = 3 then (if digQ x = true then 4 else spv 4 x) else if k = 8 then 8 else spv k x
theorem spv_le {k x : Nat} : spv k x ≤ 8 := by unfold spv; (repeat' split) <;> omega
theorem stp_le (k x : Nat) : stp k x ≤ 8 := by
  have h4 := @spv_le 4 x
  have hk := @spv_le k x
  unfold stp
  repeat' split
  all_goals omega
/-- what the reading has come to after so many codes: 0 to 7; 8 is bad -/
def sg (B : Nat → Nat) : Nat → Nat
  | 0 => 0
  | k + 1 => stp (sg B k) (B k)
theorem sg_le (B : Nat → Nat) : ∀ k, sg B k ≤ 8
  | 0 => Nat.zero_le _
  | k + 1 => stp_le _ _
theorem sg_bad {B : Nat → Nat} {k : Nat} (h : sg B k = 8) : ∀ {n : Nat}, k ≤ n → sg B n = 8
  | 0, hn => by rw [show k = 0 by omega] at h; exact h
  | n + 1, hn => by
    by_cases e : k = n + 1
    · rw [← e]; exact h
    · show stp (sg B n) (B n) = 8
      rw [sg_bad h (n := n) (by omega)]; rfl
def erF (B : Nat → Nat) : Nat → Nat → Nat
  | 0, i => i
  | d + 1, i => if sg B (i + 1) = 8 then i else erF B d (i + 1)
/-- where the reading fails; at the end, if nowhere -/
def errN (B : Nat → Nat) (n : Nat) : Nat := erF B n 0
theorem er_t {B : Nat → Nat} {n k : Nat} (hk : k < n) (h : sg B (k + 1) = 8) : erF B (n - k) k = k := by
  rw [show n - k = (n - (k + 1)) + 1 by omega]; exact if_pos h
theorem er_f {B : Nat → Nat} {n k : Nat} (hk : k < n) (h : ¬ sg B (k + 1) = 8) : erF B (n - k) k = erF B (n - (k + 1)) (k + 1) := by
  rw [show n - k = (n - (k + 1)) + 1 by omega]; exact if_neg h
theorem er_go {B : Nat → Nat} {n : Nat} : ∀ {a : Nat}, a ≤ n → ¬ sg B a = 8 → errN B n = erF B (n - a) a
  | 0, _, _ => rfl
  | a + 1, ha, h => by
    rw [er_go (a := a) (by omega) (fun q => h (sg_bad q (by omega))), er_f (by omega) h]
theorem er_at {B : Nat → Nat} {n a : Nat} (ha : a ≤ n) (h : ¬ sg B a = 8) (h2 : a < n → sg B (a + 1) = 8) : errN B n = a := by
  rw [er_go ha h]
  by_cases e : a < n
  · exact er_t e (h2 e)
  · rw [show n - a = 0 by omega]; rfl
def cplQ (B : Nat → Nat) (n : Nat) : Bool := decide (3 ≤ sg B n) && decide (sg B n < 8)
theorem cpl_iff {B : Nat → Nat} {n : Nat} : cplQ B n = true ↔ 3 ≤ sg B n ∧ sg B n < 8 := by unfold cplQ; simp only [Bool.and_eq_true, decide_eq_true_eq]
/-- the value and the secrecy of a part, from its digits and marks -/
def vlu (B : Nat → Nat) (t : Nat) : Nat → Nat
  | 0 => 0
  | k + 1 => if B (t + k) = 33 then vlu B t k else vlu B t k * 10 + (B (t + k) - 48)
def scu (B : Nat → Nat) (t : Nat) : Nat → Nat
  | 0 => 0
  | k + 1 => if B (t + k) = 33 then scu B t k + 1 else scu B t k
theorem vl_t {B : Nat → Nat} {t k : Nat} (h : B (t + k) = 33) : vlu B t (k + 1) = vlu B t k := if_pos h
theorem vl_f {B : Nat → Nat} {t k : Nat} (h : ¬ B (t + k) = 33) : vlu B t (k + 1) = vlu B t k * 10 + (B (t + k) - 48) := if_neg h
theorem sc_t {B : Nat → Nat} {t k : Nat} (h : B (t + k) = 33) : scu B t (k + 1) = scu B t k + 1 := if_pos h
theorem sc_f {B : Nat → Nat} {t k : Nat} (h : ¬ B (t + k) = 33) : scu B t (k + 1) = scu B t k := if_neg h
def prtV (B : Nat → Nat) (t en w : Nat) : Nat := if w = 0 then B t - 48 else if w = 1 then plN (B (t + 1)) else if w = 2 then vlu B (t + 2) (en - (t + 2)) else scu B (t + 2) (en - (t + 2))
/-- rows' ends, how many are behind, where the present one starts -/
def cmQ (B : Nat → Nat) (n k : Nat) : Bool := decide (k = n) || decide (B k = 44)
def prt (B : Nat → Nat) (n : Nat) : Nat → Nat
  | 0 => 0
  | k + 1 => if cmQ B n k = true then prt B n k + 1 else prt B n k
def sta (B : Nat → Nat) (n : Nat) : Nat → Nat
  | 0 => 0
  | k + 1 => if cmQ B n k = true then k + 1 else sta B n k
theorem prt_t {B : Nat → Nat} {n k : Nat} (h : cmQ B n k = true) : prt B n (k + 1) = prt B n k + 1 := if_pos h
theorem prt_f {B : Nat → Nat} {n k : Nat} (h : cmQ B n k = false) : prt B n (k + 1) = prt B n k := if_neg (by rw [h]; decide)
theorem sta_t {B : Nat → Nat} {n k : Nat} (h : cmQ B n k = true) : sta B n (k + 1) = k + 1 := if_pos h
theorem sta_f {B : Nat → Nat} {n k : Nat} (h : cmQ B n k = false) : sta B n (k + 1) = sta B n k := if_neg (by rw [h]; decide)
theorem prt_mono {B : Nat → Nat} {n j : Nat} : ∀ {k : Nat}, j ≤ k → prt B n j ≤ prt B n k
  | 0, h => by rw [show j = 0 by omega]; exact Nat.le_refl _
  | k + 1, h => by
    by_cases e : j = k + 1
    · rw [e]; exact Nat.le_refl _
    · have h1 := prt_mono (B := B) (n := n) (j := j) (k := k) (by omega)
      cases q : cmQ B n k with
      | true => rw [prt_t q]; omega
      | false => rw [prt_f q]; exact h1
/-- the rows of the text, in a table -/
def tab (B : Nat → Nat) (n : Nat) : Nat → Nat → Nat → Nat
  | 0 => fun _ _ => 0
  | k + 1 => fun j w => if cmQ B n k = true ∧ j = prt B n k then prtV B (sta B n k) k w else tab B n k j w
theorem tab_keep {B : Nat → Nat} {n k j w : Nat} (hj : j < prt B n k) : ∀ {k2 : Nat}, k ≤ k2 → tab B n k2 j w = tab B n k j w
  | 0, h => by rw [show k = 0 by omega]
  | k2 + 1, h => by
    by_cases e : k = k2 + 1
    · rw [e]
    · show (if _ then _ else _) = _
      have h2 := prt_mono (B := B) (n := n) (j := k) (k := k2) (by omega)
      rw [if_neg (by omega), tab_keep hj (by omega)]
theorem tab_at {B : Nat → Nat} {n k w : Nat} (h : cmQ B n k = true) (hk : k ≤ n) : tab B n (n + 1) (prt B n k) w = prtV B (sta B n k) k w := by
  rw [tab_keep (k := k + 1) (by rw [prt_t h]; omega) (by omega)]
  exact if_pos ⟨h, rfl⟩
/-- arrays with rows added -/
def adI (g : Nat → Int32) (n : Nat) (T : Nat → Nat → Nat) (w k : Nat) : Nat → Int32 := fun j => if n ≤ j ∧ j < n + k then nI (T (j - n) w) else g j
theorem ad_0 (g : Nat → Int32) (n : Nat) (T : Nat → Nat → Nat) (w : Nat) : adI g n T w 0 = g := by
  funext j; unfold adI; rw [if_neg (by omega)]
theorem ad_s {g : Nat → Int32} {n w k v : Nat} {T : Nat → Nat → Nat} (h : T k w = v) : upd (adI g n T w k) (n + k) (nI v) = adI g n T w (k + 1) := by
  funext j
  unfold adI upd
  by_cases e : j = n + k
  · subst e
    rw [if_pos rfl, if_pos (by omega), show n + k - n = k by omega, h]
  · rw [if_neg e]
    show (if n ≤ j ∧ j < n + k then nI (T (j - n) w) else g j) = (if n ≤ j ∧ j < n + (k + 1) then nI (T (j - n) w) else g j)
    by_cases e2 : n ≤ j ∧ j < n + k
    · rw [if_pos e2, if_pos (by omega)]
    · rw [if_neg e2, if_neg (by omega)]
/-- what is known of the part that is being read -/
def okS (B : Nat → Nat) (k t : Nat) : Prop :=
  (sg B k = 0 ∧ t = k) ∨ (sg B k = 1 ∧ k = t + 1 ∧ 48 ≤ B t ∧ B t < 53) ∨ (sg B k = 2 ∧ k = t + 2 ∧ 48 ≤ B t ∧ B t < 53 ∧ plN (B (t + 1)) < 4) ∨
  (sg B k = 3 ∧ k = t + 3 ∧ 48 ≤ B t ∧ B t < 53 ∧ plN (B (t + 1)) < 4 ∧ digQ (B (t + 2)) = true) ∨
  (4 ≤ sg B k ∧ sg B k < 8 ∧ t + 3 ≤ k ∧ 48 ≤ B t ∧ B t < 53 ∧ plN (B (t + 1)) < 4 ∧ (∀ i, t + 2 ≤ i → i < k → B i = 33 ∨ digQ (B i) = true) ∧ vlu B (t + 2) (k - (t + 2)) < 100 ∧ scu B (t + 2) (k - (t + 2)) + 4 = sg B k)
theorem stp_0 (x : Nat) : stp 0 x = if 48 ≤ x ∧ x < 53 then 1 else 8 := rfl
theorem stp_1 (x : Nat) : stp 1 x = if plN x = 4 then 8 else 2 := rfl
theorem stp_2 (x : Nat) : stp 2 x = if x = 48 then 4 else if digQ x = true then 3 else 8 := rfl
theorem stp_3 (x : Nat) : stp 3 x = if digQ x = true then 4 else spv 4 x := rfl
theorem stp_4 {k x : Nat} (h : 4 ≤ k) (h8 : k < 8) : stp k x = spv k x := by
  unfold stp; rw [if_neg (by omega), if_neg (by omega), if_neg (by omega), if_neg (by omega), if_neg (by omega)]
theorem pl_44 : plN 44 = 4 := rfl
theorem ok_go {B : Nat → Nat} {n : Nat} : ∀ {k : Nat}, k ≤ n → ¬ sg B k = 8 → okS B k (sta B n k)
  | 0, _, _ => Or.inl ⟨rfl, rfl⟩
  | k + 1, hk, h8 => by
    have hk8 : ¬ sg B k = 8 := fun q => h8 (sg_bad q (by omega))
    have ih := ok_go (n := n) (k := k) (by omega) hk8
    have hs : sg B (k + 1) = stp (sg B k) (B k) := rfl
    have hcm : B k = 44 → sta B n (k + 1) = k + 1 := fun q => sta_t (by unfold cmQ; rw [decide_eq_true q, Bool.or_true])
    have hcn : ¬ B k = 44 → sta B n (k + 1) = sta B n k := fun q => sta_f (by unfold cmQ; rw [decide_eq_false q, decide_eq_false (by omega)]; rfl)
    rw [hs] at h8
    generalize sta B n k = t at *
    rcases ih with ⟨e, ht⟩ | ⟨e, ht, o1, o2⟩ | ⟨e, ht, o1, o2, o3⟩ | ⟨e, ht, o1, o2, o3, o4⟩ | ⟨e1, e2, ht, o1, o2, o3, o4, o5, o6⟩
    · rw [e, stp_0] at hs h8
      by_cases c : 48 ≤ B k ∧ B k < 53
      · rw [if_pos c] at hs
        rw [hcn (by omega)]
        subst ht
        exact Or.inr (Or.inl ⟨hs, rfl, c.1, c.2⟩)
      · rw [if_neg c] at h8; exact absurd rfl h8
    · rw [e, stp_1] at hs h8
      by_cases c : plN (B k) = 4
      · rw [if_pos c] at h8; exact absurd rfl h8
      · rw [if_neg c] at hs
        have hp := plN_le (B k)
        rw [hcn (fun q => c (by rw [q]; rfl))]
        subst ht
        exact Or.inr (Or.inr (Or.inl ⟨hs, rfl, o1, o2, by omega⟩))
    · rw [e, stp_2] at hs h8
      subst ht
      by_cases c : B (t + 2) = 48
      · rw [if_pos c] at hs
        rw [hcn (by omega)]
        refine Or.inr (Or.inr (Or.inr (Or.inr ⟨by omega, by omega, by omega, o1, o2, o3, fun i h1 h2 => Or.inr ?_, ?_, ?_⟩)))
        · rw [show i = t + 2 by omega, c]; rfl
        · rw [show t + 2 + 1 - (t + 2) = 0 + 1 by omega, vl_f (by rw [Nat.add_zero]; omega), Nat.add_zero, c]; show 0 * 10 + (48 - 48) < 100; decide
        · rw [show t + 2 + 1 - (t + 2) = 0 + 1 by omega, sc_f (by rw [Nat.add_zero]; omega), hs]; rfl
      · rw [if_neg c] at hs h8
        by_cases c2 : digQ (B (t + 2)) = true
        · rw [if_pos c2] at hs
          have := digQ_t.mp c2
          rw [hcn (by omega)]
          exact Or.inr (Or.inr (Or.inr (Or.inl ⟨hs, rfl, o1, o2, o3, c2⟩)))
        · rw [if_neg c2] at h8; exact absurd rfl h8
    · rw [e, stp_3] at hs h8
      subst ht
      have d1 := digQ_t.mp o4
      have v1 : vlu B (t + 2) 1 = B (t + 2) - 48 := by
        rw [show (1 : Nat) = 0 + 1 from rfl, vl_f (by rw [Nat.add_zero]; omega), Nat.add_zero]
        show 0 * 10 + _ = _
        omega
      have s1 : scu B (t + 2) 1 = 0 := by
        rw [show (1 : Nat) = 0 + 1 from rfl, sc_f (by rw [Nat.add_zero]; omega)]; rfl
      by_cases c2 : digQ (B (t + 3)) = true
      · rw [if_pos c2] at hs
        have d2 := digQ_t.mp c2
        rw [hcn (by omega)]
        refine Or.inr (Or.inr (Or.inr (Or.inr ⟨by omega, by omega, by omega, o1, o2, o3, fun i h1 h2 => Or.inr ?_, ?_, ?_⟩)))
        · rcases (by omega : i = t + 2 ∨ i = t + 3) with rfl | rfl
          · exact o4
          · exact c2
        · rw [show t + 3 + 1 - (t + 2) = 1 + 1 by omega, vl_f (by show ¬ B (t + 3) = 33; omega), v1]
          show (B (t + 2) - 48) * 10 + (B (t + 3) - 48) < 100
          omega
        · rw [show t + 3 + 1 - (t + 2) = 1 + 1 by omega, sc_f (by show ¬ B (t + 3) = 33; omega), s1, hs]
      · rw [if_neg c2] at hs h8
        unfold spv at hs h8
        by_cases c3 : B (t + 3) = 44
        · rw [if_pos c3] at hs
          rw [hcm c3]
          exact Or.inl ⟨hs, rfl⟩
        · rw [if_neg c3] at hs h8
          by_cases c4 : B (t + 3) = 33
          · rw [if_pos ⟨c4, by omega, by omega⟩] at hs
            rw [hcn c3]
            refine Or.inr (Or.inr (Or.inr (Or.inr ⟨by omega, by omega, by omega, o1, o2, o3, fun i h1 h2 => ?_, ?_, ?_⟩)))
            · rcases (by omega : i = t + 2 ∨ i = t + 3) with rfl | rfl
              · exact Or.inr o4
              · exact Or.inl c4
            · rw [show t + 3 + 1 - (t + 2) = 1 + 1 by omega, vl_t (t := t + 2) (k := 1) (show B (t + 3) = 33 from c4), v1]; omega
            · rw [show t + 3 + 1 - (t + 2) = 1 + 1 by omega, sc_t (t := t + 2) (k := 1) (show B (t + 3) = 33 from c4), s1, hs]
          · rw [if_neg (fun q => c4 q.1)] at h8; exact absurd rfl h8
    · rw [stp_4 e1 e2] at hs h8
      unfold spv at hs h8
      by_cases c3 : B k = 44
      · rw [if_pos c3] at hs
        rw [hcm c3]
        exact Or.inl ⟨hs, rfl⟩
      · rw [if_neg c3] at hs h8
        by_cases c4 : B k = 33 ∧ 4 ≤ sg B k ∧ sg B k < 7
        · rw [if_pos c4] at hs
          rw [hcn c3]
          have ek : k + 1 - (t + 2) = (k - (t + 2)) + 1 := by omega
          have eb : B (t + 2 + (k - (t + 2))) = 33 := by rw [show t + 2 + (k - (t + 2)) = k by omega]; exact c4.1
          refine Or.inr (Or.inr (Or.inr (Or.inr ⟨by omega, by omega, by omega, o1, o2, o3, fun i h1 h2 => ?_, ?_, ?_⟩)))
          · by_cases e : i = k
            · rw [e]; exact Or.inl c4.1
            · exact o4 i h1 (by omega)
          · rw [ek, vl_t eb]; exact o5
          · rw [ek, sc_t eb, hs]; omega
        · rw [if_neg c4] at h8; exact absurd rfl h8
/-- a row's end that is no bad place: the part behind is well -/
theorem ok_end {B : Nat → Nat} {n k : Nat} (hk : k ≤ n) (hc : cmQ B n k = true) (hw : cplQ B n = true) : sta B n k + 3 ≤ k ∧ 48 ≤ B (sta B n k) ∧ B (sta B n k) < 53 ∧ plN (B (sta B n k + 1)) < 4 ∧ (∀ i, sta B n k + 2 ≤ i → i < k → B i = 33 ∨ digQ (B i) = true) ∧ vlu B (sta B n k + 2) (k - (sta B n k + 2)) < 100 ∧ scu B (sta B n k + 2) (k - (sta B n k + 2)) < 4 := by
  obtain ⟨w1, w2⟩ := cpl_iff.mp hw
  have h8 : ¬ sg B k = 8 := fun q => by have := sg_bad q hk; omega
  have h3 : 3 ≤ sg B k := by
    by_cases e : k = n
    · rw [e]; exact w1
    · have e44 : B k = 44 := by
        unfold cmQ at hc
        rw [decide_eq_false e, Bool.false_or] at hc
        exact of_decide_eq_true hc
      have h9 : ¬ sg B (k + 1) = 8 := fun q => by have := sg_bad q (n := n) (by omega); omega
      have h10 := sg_le B k
      refine Nat.not_lt.mp (fun q => h9 ?_)
      show stp (sg B k) (B k) = 8
      rw [e44]
      rcases (by omega : sg B k = 0 ∨ sg B k = 1 ∨ sg B k = 2) with e | e | e <;> rw [e] <;> rfl
  rcases ok_go hk h8 with ⟨e, -⟩ | ⟨e, -⟩ | ⟨e, -⟩ | ⟨e, ht, o1, o2, o3, o4⟩ | ⟨e1, e2, ht, o1, o2, o3, o4, o5, o6⟩
  · omega
  · omega
  · omega
  · have d1 := digQ_t.mp o4
    generalize sta B n k = t at *
    subst ht
    refine ⟨by omega, o1, o2, o3, fun i h1 h2 => Or.inr (by rw [show i = t + 2 by omega]; exact o4), ?_, ?_⟩
    · rw [show t + 3 - (t + 2) = 0 + 1 by omega, vl_f (by rw [Nat.add_zero]; omega), Nat.add_zero]
      show 0 * 10 + _ < 100
      omega
    · rw [show t + 3 - (t + 2) = 0 + 1 by omega, sc_f (by rw [Nat.add_zero]; omega)]; show 0 < 4; decide
  · exact ⟨ht, o1, o2, o3, o4, o5, by omega⟩
theorem pl_off {x : Int32} {o1 o2 o3 o4 d : Int} (h1 : ¬ x = nI 101) (h2 : ¬ x = nI 110) (h3 : ¬ x = nI 115) (h4 : ¬ x = nI 119) : Op.lookupswitch.offset [(101, o1), (110, o2), (115, o3), (119, o4)] d x.toInt = d := by
  rw [lv_osw h1 (by decide), lv_osw h2 (by decide), lv_osw h3 (by decide), lv_osw h4 (by decide)]; rfl
