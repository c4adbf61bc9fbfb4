/-! The input text: codes, and the reading of it. -/
def sI (k : Nat) : Int32 := if k = 8 then -1 else nI k
theorem sI_m1 {k : Nat} (h : k ≤ 8) : sI k = -1 ↔ k = 8 := (show ∀ j, j < 9 → (sI j = -1 ↔ j = 8) by decide) k (by omega)
theorem sI_lt3 {k : Nat} (h : k ≤ 8) : sI k < nI 3 ↔ k < 3 ∨ k = 8 := (show ∀ j, j < 9 → (sI j < nI 3 ↔ j < 3 ∨ j = 8) by decide) k (by omega)
def digQ (x : Nat) : Bool := decide (48 ≤ x) && decide (x ≤ 57)
theorem digQ_t {x : Nat} : digQ x = true ↔ 48 ≤ x ∧ x ≤ 57 := by unfold digQ; simp only [Bool.and_eq_true, decide_eq_true_eq]
theorem digQ_f {x : Nat} (h : ¬ (48 ≤ x ∧ x ≤ 57)) : digQ x = false := Bool.eq_false_iff.mpr (fun q => h (digQ_t.mp q))
def plN (x : Nat) : Nat := if x = 110 then 0 else if x = 101 then 1 else if x = 115 then 2 else if x = 119 then 3 else 4
def plI (x : Nat) : Int32 := if plN x = 4 then -1 else nI (plN x)
theorem plN_le (x : Nat) : plN x ≤ 4 := by unfold plN; (repeat' split) <;> omega
theorem plI_m1 {x : Nat} : plI x = -1 ↔ plN x = 4 := by
  have h := plN_le x
  unfold plI
  by_cases e : plN x = 4
  · rw [if_pos e]; exact ⟨fun _ => e, fun _ => rfl⟩
  · rw [if_neg e]; exact ⟨fun q => absurd q (nI_m1 (by omega)), fun q => absurd q e⟩
theorem plI_n {x : Nat} (h : plN x < 4) : plI x = nI (plN x) := if_neg (by omega)
def spv (k x : Nat) : Nat := if x = 44 then 0 else if x = 33 ∧ 4 ≤ k ∧ k < 7 then k + 1 else 8
def stp (k x : Nat) : Nat := if k = 0 then (if 48 ≤ x ∧ x < 53 then 1 else 8) else if k = 1 then (if plN x = 4 then 8 else 2) else if k = 2 then (if x = 48 then 4 else if digQ x = true then 3 else 8) else if k = 3 then (if digQ x = true then 4 else spv 4 x) else if k = 8 then 8 else spv k x
theorem spv_le {k x : Nat} : spv k x ≤ 8 := by unfold spv; (repeat' split) <;> omega
theorem stp_le (k x : Nat) : stp k x ≤ 8 := by
  have h4 := @spv_le 4 x
  have hk := @spv_le k x
  unfold stp
  repeat' split
  all_goals omega
/-- what the reading has come to after so many codes: 0 to 7; 8 is bad -/
def sg (B : Nat → Nat) : Nat → Nat
  | 0 => 0
  | k + 1 => stp (sg B k) (B k)
theorem sg_le (B : Nat → Nat) : ∀ k, sg B k ≤ 8
  | 0 => Nat.zero_le _
  | k + 1 => stp_le _ _
theorem sg_bad {B : Nat → Nat} {k : Nat} (h : sg B k = 8) : ∀ {n : Nat}, k ≤ n → sg B n = 8
  | 0, hn => by rw [show k = 0 by omega] at h; exact h
  | n + 1, hn => by
    by_cases e : k = n + 1
    · rw [← e]; exact h
    · show stp (sg B n) (B n) = 8
      rw [sg_bad h (n := n) (by omega)]; rfl
def erF (B : Nat → Nat) : Nat → Nat → Nat
  | 0, i => i
  | d + 1, i => if sg B (i + 1) = 8 then i else erF B d (i + 1)
/-- where the reading fails; at the end, if nowhere -/
def errN (B : Nat → Nat) (n : Nat) : Nat := erF B n 0
theorem er_t {B : Nat → Nat} {n k : Nat} (hk : k < n) (h : sg B (k + 1) = 8) : erF B (n - k) k = k := by
  rw [show n - k = (n - (k + 1)) + 1 by omega]; exact if_pos h
theorem er_f {B : Nat → Nat} {n k : Nat} (hk : k < n) (h : ¬ sg B (k + 1) = 8) : erF B (n - k) k = erF B (n - (k + 1)) (k + 1) := by
  rw [show n - k = (n - (k + 1)) + 1 by omega]; exact if_neg h
theorem er_go {B : Nat → Nat} {n : Nat} : ∀ {a : Nat}, a ≤ n → ¬ sg B a = 8 → errN B n = erF B (n - a) a
  | 0, _, _ => rfl
  | a + 1, ha, h => by
    rw [er_go (a := a) (by omega) (fun q => h (sg_bad q (by omega))), er_f (by omega) h]
theorem er_at {B : Nat → Nat} {n a : Nat} (ha : a ≤ n) (h : ¬ sg B a = 8) (h2 : a < n → sg B (a + 1) = 8) : errN B n = a := by
  rw [er_go ha h]
  by_cases e : a < n
  · exact er_t e (h2 e)
  · rw [show n - a = 0 by omega]; rfl
def cplQ (B : Nat → Nat) (n : Nat) : Bool := decide (3 ≤ sg B n) && decide (sg B n < 8)
theorem cpl_iff {B : Nat → Nat} {n : Nat} : cplQ B n = true ↔ 3 ≤ sg B n ∧ sg B n < 8 := by unfold cplQ; simp only [Bool.and_eq_true, decide_eq_true_eq]
/-- the value and the secrecy of a part, from its digits and marks -/
def vlu (B : Nat → Nat) (t : Nat) : Nat → Nat
  | 0 => 0
  | k + 1 => if B (t + k) = 33 then vlu B t k else vlu B t k * 10 + (B (t + k) - 48)
def scu (B : Nat → Nat) (t : Nat) : Nat → Nat
  | 0 => 0
  | k + 1 => if B (t + k) = 33 then scu B t k + 1 else scu B t k
theorem vl_t {B : Nat → Nat} {t k : Nat} (h : B (t + k) = 33) : vlu B t (k + 1) = vlu B t k := if_pos h
theorem vl_f {B : Nat → Nat} {t k : Nat} (h : ¬ B (t + k) = 33) : vlu B t (k + 1) = vlu B t k * 10 + (B (t + k) - 48) := if_neg h
theorem sc_t {B : Nat → Nat} {t k : Nat} (h : B (t + k) = 33) : scu B t (k + 1) = scu B t k + 1 := if_pos h
theorem sc_f {B : Nat → Nat} {t k : Nat} (h : ¬ B (t + k) = 33) : scu B t (k + 1) = scu B t k := if_neg h
def prtV (B : Nat → Nat) (t en w : Nat) : Nat := if w = 0 then B t - 48 else if w = 1 then plN (B (t + 1)) else if w = 2 then vlu B (t + 2) (en - (t + 2)) else scu B (t + 2) (en - (t + 2))
/-- rows' ends, how many are behind, where the present one starts -/
def cmQ (B : Nat → Nat) (n k : Nat) : Bool := decide (k = n) || decide (B k = 44)
def prt (B : Nat → Nat) (n : Nat) : Nat → Nat
  | 0 => 0
  | k + 1 => if cmQ B n k = true then prt B n k + 1 else prt B n k
def sta (B : Nat → Nat) (n : Nat) : Nat → Nat
  | 0 => 0
  | k + 1 => if cmQ B n k = true then k + 1 else sta B n k
theorem prt_t {B : Nat → Nat} {n k : Nat} (h : cmQ B n k = true) : prt B n (k + 1) = prt B n k + 1 := if_pos h
theorem prt_f {B : Nat → Nat} {n k : Nat} (h : cmQ B n k = false) : prt B n (k + 1) = prt B n k := if_neg (by rw [h]; decide)
theorem sta_t {B : Nat → Nat} {n k : Nat} (h : cmQ B n k = true) : sta B n (k + 1) = k + 1 := if_pos h
theorem sta_f {B : Nat → Nat} {n k : Nat} (h : cmQ B n k = false) : sta B n (k + 1) = sta B n k := if_neg (by rw [h]; decide)
theorem prt_mono {B : Nat → Nat} {n j : Nat} : ∀ {k : Nat}, j ≤ k → prt B n j ≤ prt B n k
  | 0, h => by rw [show j = 0 by omega]; exact Nat.le_refl _
  | k + 1, h => by
    by_cases e : j = k + 1
    · rw [e]; exact Nat.le_refl _
    · have h1 := prt_mono (B := B) (n := n) (j := j) (k := k) (by omega)
      cases q : cmQ B n k with
      | true => rw [prt_t q]; omega
      | false => rw [prt_f q]; exact h1
/-- the rows of the text, in a table -/
def tab (B : Nat → Nat) (n : Nat) : Nat → Nat → Nat → Nat
  | 0 => fun _ _ => 0
  | k + 1 => fun j w => if cmQ B n k = true ∧ j = prt B n k then prtV B (sta B n k) k w else tab B n k j w
theorem tab_keep {B : Nat → Nat} {n k j w : Nat} (hj : j < prt B n k) : ∀ {k2 : Nat}, k ≤ k2 → tab B n k2 j w = tab B n k j w
  | 0, h => by rw [show k = 0 by omega]
  | k2 + 1, h => by
    by_cases e : k = k2 + 1
    · rw [e]
    · show (if _ then _ else _) = _
      have h2 := prt_mono (B := B) (n := n) (j := k) (k := k2) (by omega)
      rw [if_neg (by omega), tab_keep hj (by omega)]
theorem tab_at {B : Nat → Nat} {n k w : Nat} (h : cmQ B n k = true) (hk : k ≤ n) : tab B n (n + 1) (prt B n k) w = prtV B (sta B n k) k w := by
  rw [tab_keep (k := k + 1) (by rw [prt_t h]; omega) (by omega)]
  exact if_pos ⟨h, rfl⟩
/-- arrays with rows added -/
def adI (g : Nat → Int32) (n : Nat) (T : Nat → Nat → Nat) (w k : Nat) : Nat → Int32 := fun j => if n ≤ j ∧ j < n + k then nI (T (j - n) w) else g j
theorem ad_0 (g : Nat → Int32) (n : Nat) (T : Nat → Nat → Nat) (w : Nat) : adI g n T w 0 = g := by
  funext j; unfold adI; rw [if_neg (by omega)]
theorem ad_s {g : Nat → Int32} {n w k v : Nat} {T : Nat → Nat → Nat} (h : T k w = v) : upd (adI g n T w k) (n + k) (nI v) = adI g n T w (k + 1) := by
  funext j
  unfold adI upd
  by_cases e : j = n + k
  · subst e
    rw [if_pos rfl, if_pos (by omega), show n + k - n = k by omega, h]
  · rw [if_neg e]
    show (if n ≤ j ∧ j < n + k then nI (T (j - n) w) else g j) = (if n ≤ j ∧ j < n + (k + 1) then nI (T (j - n) w) else g j)
    by_cases e2 : n ≤ j ∧ j < n + k
    · rw [if_pos e2, if_pos (by omega)]
    · rw [if_neg e2, if_neg (by omega)]
/-- what is known of the part that is being read -/
def okS (B : Nat → Nat) (k t : Nat) : Prop :=
  (sg B k = 0 ∧ t = k) ∨ (sg B k = 1 ∧ k = t + 1 ∧ 48 ≤ B t ∧ B t < 53) ∨ (sg B k = 2 ∧ k = t + 2 ∧ 48 ≤ B t ∧ B t < 53 ∧ plN (B (t + 1)) < 4) ∨
  (sg B k = 3 ∧ k = t + 3 ∧ 48 ≤ B t ∧ B t < 53 ∧ plN (B (t + 1)) < 4 ∧ digQ (B (t + 2)) = true) ∨
  (4 ≤ sg B k ∧ sg B k < 8 ∧ t + 3 ≤ k ∧ 48 ≤ B t ∧ B t < 53 ∧ plN (B (t + 1)) < 4 ∧ (∀ i, t + 2 ≤ i → i < k → B i = 33 ∨ digQ (B i) = true) ∧ vlu B (t + 2) (k - (t + 2)) < 100 ∧ scu B (t + 2) (k - (t + 2)) + 4 = sg B k)
theorem stp_0 (x : Nat) : stp 0 x = if 48 ≤ x ∧ x < 53 then 1 else 8 := rfl
theorem stp_1 (x : Nat) : stp 1 x = if plN x = 4 then 8 else 2 := rfl
theorem stp_2 (x : Nat) : stp 2 x = if x = 48 then 4 else if digQ x = true then 3 else 8 := rfl
theorem stp_3 (x : Nat) : stp 3 x = if digQ x = true then 4 else spv 4 x := rfl
theorem stp_4 {k x : Nat} (h : 4 ≤ k) (h8 : k < 8) : stp k x = spv k x := by
  unfold stp; rw [if_neg (by omega), if_neg (by omega), if_neg (by omega), if_neg (by omega), if_neg (by omega)]
theorem pl_44 : plN 44 = 4 := rfl
theorem ok_go {B : Nat → Nat} {n : Nat} : ∀ {k : Nat}, k ≤ n → ¬ sg B k = 8 → okS B k (sta B n k)
  | 0, _, _ => Or.inl ⟨rfl, rfl⟩
  | k + 1, hk, h8 => by
    have hk8 : ¬ sg B k = 8 := fun q => h8 (sg_bad q (by omega))
    have ih := ok_go (n := n) (k := k) (by omega) hk8
    have hs : sg B (k + 1) = stp (sg B k) (B k) := rfl
    have hcm : B k = 44 → sta B n (k + 1) = k + 1 := fun q => sta_t (by unfold cmQ; rw [decide_eq_true q, Bool.or_true])
    have hcn : ¬ B k = 44 → sta B n (k + 1) = sta B n k := fun q => sta_f (by unfold cmQ; rw [decide_eq_false q, decide_eq_false (by omega)]; rfl)
    rw [hs] at h8
    generalize sta B n k = t at *
    rcases ih with ⟨e, ht⟩ | ⟨e, ht, o1, o2⟩ | ⟨e, ht, o1, o2, o3⟩ | ⟨e, ht, o1, o2, o3, o4⟩ | ⟨e1, e2, ht, o1, o2, o3, o4, o5, o6⟩
    · rw [e, stp_0] at hs h8
      by_cases c : 48 ≤ B k ∧ B k < 53
      · rw [if_pos c] at hs
        rw [hcn (by omega)]
        subst ht
        exact Or.inr (Or.inl ⟨hs, rfl, c.1, c.2⟩)
      · rw [if_neg c] at h8; exact absurd rfl h8
    · rw [e, stp_1] at hs h8
      by_cases c : plN (B k) = 4
      · rw [if_pos c] at h8; exact absurd rfl h8
      · rw [if_neg c] at hs
        have hp := plN_le (B k)
        rw [hcn (fun q => c (by rw [q]; rfl))]
        subst ht
        exact Or.inr (Or.inr (Or.inl ⟨hs, rfl, o1, o2, by omega⟩))
    · rw [e, stp_2] at hs h8
      subst ht
      by_cases c : B (t + 2) = 48
      · rw [if_pos c] at hs
        rw [hcn (by omega)]
        refine Or.inr (Or.inr (Or.inr (Or.inr ⟨by omega, by omega, by omega, o1, o2, o3, fun i h1 h2 => Or.inr ?_, ?_, ?_⟩)))
        · rw [show i = t + 2 by omega, c]; rfl
        · rw [show t + 2 + 1 - (t + 2) = 0 + 1 by omega, vl_f (by rw [Nat.add_zero]; omega), Nat.add_zero, c]; show 0 * 10 + (48 - 48) < 100; decide
        · rw [show t + 2 + 1 - (t + 2) = 0 + 1 by omega, sc_f (by rw [Nat.add_zero]; omega), hs]; rfl
      · rw [if_neg c] at hs h8
        by_cases c2 : digQ (B (t + 2)) = true
        · rw [if_pos c2] at hs
          have := digQ_t.mp c2
          rw [hcn (by omega)]
          exact Or.inr (Or.inr (Or.inr (Or.inl ⟨hs, rfl, o1, o2, o3, c2⟩)))
        · rw [if_neg c2] at h8; exact absurd rfl h8
    · rw [e, stp_3] at hs h8
      subst ht
      have d1 := digQ_t.mp o4
      have v1 : vlu B (t + 2) 1 = B (t + 2) - 48 := by
        rw [show (1 : Nat) = 0 + 1 from rfl, vl_f (by rw [Nat.add_zero]; omega), Nat.add_zero]
        show 0 * 10 + _ = _
        omega
      have s1 : scu B (t + 2) 1 = 0 := by
        rw [show (1 : Nat) = 0 + 1 from rfl, sc_f (by rw [Nat.add_zero]; omega)]; rfl
      by_cases c2 : digQ (B (t + 3)) = true
      · rw [if_pos c2] at hs
        have d2 := digQ_t.mp c2
        rw [hcn (by omega)]
        refine Or.inr (Or.inr (Or.inr (Or.inr ⟨by omega, by omega, by omega, o1, o2, o3, fun i h1 h2 => Or.inr ?_, ?_, ?_⟩)))
        · rcases (by omega : i = t + 2 ∨ i = t + 3) with rfl | rfl
          · exact o4
          · exact c2
        · rw [show t + 3 + 1 - (t + 2) = 1 + 1 by omega, vl_f (by show ¬ B (t + 3) = 33; omega), v1]
          show (B (t + 2) - 48) * 10 + (B (t + 3) - 48) < 100
          omega
        · rw [show t + 3 + 1 - (t + 2) = 1 + 1 by omega, sc_f (by show ¬ B (t + 3) = 33; omega), s1, hs]
      · rw [if_neg c2] at hs h8
        unfold spv at hs h8
        by_cases c3 : B (t + 3) = 44
        · rw [if_pos c3] at hs
          rw [hcm c3]
          exact Or.inl ⟨hs, rfl⟩
        · rw [if_neg c3] at hs h8
          by_cases c4 : B (t + 3) = 33
          · rw [if_pos ⟨c4, by omega, by omega⟩] at hs
            rw [hcn c3]
            refine Or.inr (Or.inr (Or.inr (Or.inr ⟨by omega, by omega, by omega, o1, o2, o3, fun i h1 h2 => ?_, ?_, ?_⟩)))
            · rcases (by omega : i = t + 2 ∨ i = t + 3) with rfl | rfl
              · exact Or.inr o4
              · exact Or.inl c4
            · rw [show t + 3 + 1 - (t + 2) = 1 + 1 by omega, vl_t (t := t + 2) (k := 1) (show B (t + 3) = 33 from c4), v1]; omega
            · rw [show t + 3 + 1 - (t + 2) = 1 + 1 by omega, sc_t (t := t + 2) (k := 1) (show B (t + 3) = 33 from c4), s1, hs]
          · rw [if_neg (fun q => c4 q.1)] at h8; exact absurd rfl h8
    · rw [stp_4 e1 e2] at hs h8
      unfold spv at hs h8
      by_cases c3 : B k = 44
      · rw [if_pos c3] at hs
        rw [hcm c3]
        exact Or.inl ⟨hs, rfl⟩
      · rw [if_neg c3] at hs h8
        by_cases c4 : B k = 33 ∧ 4 ≤ sg B k ∧ sg B k < 7
        · rw [if_pos c4] at hs
          rw [hcn c3]
          have ek : k + 1 - (t + 2) = (k - (t + 2)) + 1 := by omega
          have eb : B (t + 2 + (k - (t + 2))) = 33 := by rw [show t + 2 + (k - (t + 2)) = k by omega]; exact c4.1
          refine Or.inr (Or.inr (Or.inr (Or.inr ⟨by omega, by omega, by omega, o1, o2, o3, fun i h1 h2 => ?_, ?_, ?_⟩)))
          · by_cases e : i = k
            · rw [e]; exact Or.inl c4.1
            · exact o4 i h1 (by omega)
          · rw [ek, vl_t eb]; exact o5
          · rw [ek, sc_t eb, hs]; omega
        · rw [if_neg c4] at h8; exact absurd rfl h8
/-- a row's end that is no bad place: the part behind is well -/
theorem ok_end {B : Nat → Nat} {n k : Nat} (hk : k ≤ n) (hc : cmQ B n k = true) (hw : cplQ B n = true) : sta B n k + 3 ≤ k ∧ 48 ≤ B (sta B n k) ∧ B (sta B n k) < 53 ∧ plN (B (sta B n k + 1)) < 4 ∧ (∀ i, sta B n k + 2 ≤ i → i < k → B i = 33 ∨ digQ (B i) = true) ∧ vlu B (sta B n k + 2) (k - (sta B n k + 2)) < 100 ∧ scu B (sta B n k + 2) (k - (sta B n k + 2)) < 4 := by
  obtain ⟨w1, w2⟩ := cpl_iff.mp hw
  have h8 : ¬ sg B k = 8 := fun q => by have := sg_bad q hk; omega
  have h3 : 3 ≤ sg B k := by
    by_cases e : k = n
    · rw [e]; exact w1
    · have e44 : B k = 44 := by
        unfold cmQ at hc
        rw [decide_eq_false e, Bool.false_or] at hc
        exact of_decide_eq_true hc
      have h9 : ¬ sg B (k + 1) = 8 := fun q => by have := sg_bad q (n := n) (by omega); omega
      have h10 := sg_le B k
      refine Nat.not_lt.mp (fun q => h9 ?_)
      show stp (sg B k) (B k) = 8
      rw [e44]
      rcases (by omega : sg B k = 0 ∨ sg B k = 1 ∨ sg B k = 2) with e | e | e <;> rw [e] <;> rfl
  rcases ok_go hk h8 with ⟨e, -⟩ | ⟨e, -⟩ | ⟨e, -⟩ | ⟨e, ht, o1, o2, o3, o4⟩ | ⟨e1, e2, ht, o1, o2, o3, o4, o5, o6⟩
  · omega
  · omega
  · omega
  · have d1 := digQ_t.mp o4
    generalize sta B n k = t at *
    subst ht
    refine ⟨by omega, o1, o2, o3, fun i h1 h2 => Or.inr (by rw [show i = t + 2 by omega]; exact o4), ?_, ?_⟩
    · rw [show t + 3 - (t + 2) = 0 + 1 by omega, vl_f (by rw [Nat.add_zero]; omega), Nat.add_zero]
      show 0 * 10 + _ < 100
      omega
    · rw [show t + 3 - (t + 2) = 0 + 1 by omega, sc_f (by rw [Nat.add_zero]; omega)]; show 0 < 4; decide
  · exact ⟨ht, o1, o2, o3, o4, o5, by omega⟩
theorem pl_off {x : Int32} {o1 o2 o3 o4 d : Int} (h1 : ¬ x = nI 101) (h2 : ¬ x = nI 110) (h3 : ¬ x = nI 115) (h4 : ¬ x = nI 119) : Op.lookupswitch.offset [(101, o1), (110, o2), (115, o3), (119, o4)] d x.toInt = d := by
  rw [lv_osw h1 (by decide), lv_osw h2 (by decide), lv_osw h3 (by decide), lv_osw h4 (by decide)]; rfl
abbrev rm_X0_isFull : Room := { frames := 0, cells := 0, slots := 0, locals := 0 }
theorem k_X0_isFull : Cal yX0_isFull wsX0_isFull rm_X0_isFull cX0_isFull 1 (some .boolean) 0 0 0 := ⟨⟨_, rfl⟩, rfl, rfl, by decide +kernel⟩
set_option maxHeartbeats 4000000 in
set_option maxRecDepth 100000 in
theorem m_X0_isFull (l : Launch) (Γ : Gm) (q : Nat → Nat) (g : Nat → Int32) (n : Nat) (hn : n ≤ 60) (z : Int32) (hz : z = nI n) : MRi l yX0_isFull wsX0_isFull rm_X0_isFull Γ [(q 0, .inr (0, [.ref (q 1), .int z])), (q 1, .inr (3, [.ref (q 2)])), (q 2, .inl (Γ.2.1, 60, .inl g))] [.ref (q 0)] (fun r => r = bI (decide (n = 60))) := by
  refine mR (cc := cX0_isFull) (maxL := 1) (ret := (some .boolean)) (own := RX0) (by decide) rfl rfl (Nat.le_of_ble_eq_true rfl) ?_
  intro p e s m args below meth c S hrt hlk hK hP ls hl
  obtain ⟨hx, hb, hml, hown, hts⟩ := id S
  have hl : lv_has ls 1 [(0, .ref (q 0))] := hl
  have hP : gP Γ [(q 0, .inr (0, [.ref (q 1), .int z])), (q 1, .inr (3, [.ref (q 2)])), (q 2, .inl (Γ.2.1, 60, .inl g))] s.heap := hP
  refine lv_aload_n hx hb dX0_isFull_0 rfl (lv_at hl 0 rfl) ?_
  refine va_get (D := Γ.1) (ci := 0) (v := .int z) (C := RX0) (T := TX0) (N := 2) hx hb hts (by decide +kernel) hown hK hP 0 rfl rfl 1 (by decide) (hts (.fieldLink RX0 20 "RowVeils$Buffer" "length" "I") (by decide +kernel)) (fun _ h9 => h9) rfl dX0_isFull_1 ?_
  refine asi (z := nI n) hz ?_
  refine lv_bipush (v := nI 60) hx hb dX0_isFull_4 (by decide) ?_
  refine lv_icmp_lt (tgt := 13) hx hb dX0_isFull_6 (by decide) (fun c_6 => ?_) (fun c_6 => ?_)
  · have n_6 := (nI_ltI (a := n) (b := 60) (by omega) (by omega)).mp c_6
    refine lv_iconst (v := nI 0) hx hb dX0_isFull_13 (by decide) ?_
    exact W.zret (v := nI 0) hx hb hrt (z0) (fun t9 ht9 hW9 => ⟨_, rfl, bf (decide_eq_false (by omega)), ht9⟩) (fun _ h9 => nomatch h9) dX0_isFull_14 hlk
  · have n_6 := (not_congr (nI_ltI (a := n) (b := 60) (by omega) (by omega))).mp c_6
    refine lv_iconst (v := nI 1) hx hb dX0_isFull_9 (by decide) ?_
    refine lv_goto (tgt := 14) hx hb dX0_isFull_10 (by decide) ?_
    exact W.zret (v := nI 1) hx hb hrt (z1) (fun t9 ht9 hW9 => ⟨_, rfl, bt (decide_eq_true (by omega)), ht9⟩) (fun _ h9 => nomatch h9) dX0_isFull_14 hlk

abbrev rm_X0_put : Room := { frames := 1, cells := 0, slots := 0, locals := 22 }
theorem k_X0_put : Cal yX0_put wsX0_put rm_X0_put cX0_put 2 none 1 0 0 := ⟨⟨_, rfl⟩, rfl, rfl, by decide +kernel⟩
set_option maxHeartbeats 4000000 in
set_option maxRecDepth 100000 in
theorem m_X0_put (l : Launch) (Γ : Gm) (sz : Nat) (q : Nat → Nat) (g : Nat → Int32) (n : Nat) (hn : n < 60) (z : Int32) (hz : z = nI n) (v : Int32) : MWv (S := Unit) l yX0_put wsX0_put rm_X0_put Γ sz [(q 0, .inr (0, [.ref (q 1), .int z])), (q 1, .inr (3, [.ref (q 2)])), (q 2, .inl (Γ.2.1, 60, .inl g))] [.ref (q 0), .int v] (fun u => True) (fun u => [(q 0, .inr (0, [.ref (q 1), .int (nI (n + 1))])), (q 1, .inr (3, [.ref (q 2)])), (q 2, .inl (Γ.2.1, 60, .inl (upd g n v)))]) 0 0 := by
  refine mW (cc := cX0_put) (maxL := 2) (ret := none) (own := RX0) (by decide) rfl rfl (Nat.le_of_ble_eq_true rfl) ?_
  intro p e s m args below meth c S hrt hlk hin hsz hK hP hD hA hS ls hl
  subst hsz
  generalize hAe : va_A ([(q 0, .inr (0, [.ref (q 1), .int z])), (q 1, .inr (3, [.ref (q 2)])), (q 2, .inl (Γ.2.1, 60, .inl g))]) s.heap.size = A at hD hA hS ⊢
  obtain ⟨hx, hb, hml, hown, hts⟩ := id S
  have hl : lv_has ls 2 [(0, .ref (q 0)), (1, .int v)] := hl
  have hH : s.heap = s.heap := rfl
  refine lv_aload_n hx hb dX0_put_0 rfl (lv_at hl 0 rfl) ?_
  refine va_get (D := Γ.1) (ci := 0) (v := .ref (q 1)) (C := RX0) (T := TX0) (N := 2) hx hb hts (by decide +kernel) hown hK hP 0 rfl rfl 0 (by decide) (hts (.fieldLink RX0 14 "RowVeils$Buffer" "codes" "LRowVeils$Numbers;") (by decide +kernel)) (fun _ h9 => h9) rfl dX0_put_1 ?_
  refine lv_aload_n hx hb dX0_put_4 rfl (lv_at hl 0 rfl) ?_
  refine va_get (D := Γ.1) (ci := 0) (v := .int z) (C := RX0) (T := TX0) (N := 2) hx hb hts (by decide +kernel) hown hK hP 0 rfl rfl 1 (by decide) (hts (.fieldLink RX0 20 "RowVeils$Buffer" "length" "I") (by decide +kernel)) (fun _ h9 => h9) rfl dX0_put_5 ?_
  refine asi (z := nI n) hz ?_
  refine lv_iload_n hx hb dX0_put_8 rfl (lv_at hl 1 rfl) ?_
  refine cWv (As := [.int (nI n), .int v]) (rest := []) (wr := [(q 0, .inr (0, [.ref (q 1), .int z]))]) (m_X3_put l Γ _ (q 1) (q 2) 60 n g (by decide) (by omega) v) S k_X3_put gX0_put_X3_put rfl ⟨Nat.le_of_ble_eq_true rfl, Nat.le_of_ble_eq_true rfl⟩ hK hP hD hS hA [1, 2] [0] rfl rfl (by decide) (by decide) (by decide) 0 (ci := 3) rfl rfl rfl rfl hl.1 (Nat.le_of_ble_eq_true rfl) rfl dX0_put_9 ⟨Nat.le_of_ble_eq_true rfl, Nat.le_of_ble_eq_true rfl⟩ (fun u H locs hr hP hD hS => ?_)
  have hP : gP Γ [(q 0, .inr (0, [.ref (q 1), .int z])), (q 1, .inr (3, [.ref (q 2)])), (q 2, .inl (Γ.2.1, 60, .inl (upd g n v)))] H := hP
  have hD : va_D A [(q 0, .inr (0, [.ref (q 1), .int z])), (q 1, .inr (3, [.ref (q 2)])), (q 2, .inl (Γ.2.1, 60, .inl (upd g n v)))] := hD
  refine lv_aload_n hx hb dX0_put_12 rfl (lv_at hl 0 rfl) ?_
  refine lv_dup hx hb dX0_put_13 rfl ?_
  refine va_get (D := Γ.1) (ci := 0) (v := .int z) (C := RX0) (T := TX0) (N := 2) hx hb hts (by decide +kernel) hown hK hP 0 rfl rfl 1 (by decide) (hts (.fieldLink RX0 20 "RowVeils$Buffer" "length" "I") (by decide +kernel)) (fun _ h9 => h9) rfl dX0_put_14 ?_
  refine asi (z := nI n) hz ?_
  refine lv_iconst (v := nI 1) hx hb dX0_put_17 (by decide) ?_
  refine lv_iadd hx hb dX0_put_18 ?_
  refine asi (z := nI (n + 1)) (nI_add _ _) ?_
  refine va_put (D := Γ.1) (ci := 0) (v := .int (nI (n + 1))) (ty := .int) (C := RX0) (T := TX0) (N := 2) hx hb hts (by decide +kernel) tyX0 tyX0_ok nmX0 hown hK hP hD hS 0 rfl rfl 1 (by decide) (hts (.fieldLink RX0 20 "RowVeils$Buffer" "length" "I") (by decide +kernel)) (fun _ h9 => h9) rfl (by decide +kernel) rfl rfl (Nat.le_of_ble_eq_true rfl) dX0_put_19 (fun H locs hP hD hS => ?_)
  have hP : gP Γ [(q 0, .inr (0, [.ref (q 1), .int (nI (n + 1))])), (q 1, .inr (3, [.ref (q 2)])), (q 2, .inl (Γ.2.1, 60, .inl (upd g n v)))] H := hP
  have hD : va_D A [(q 0, .inr (0, [.ref (q 1), .int (nI (n + 1))])), (q 1, .inr (3, [.ref (q 2)])), (q 2, .inl (Γ.2.1, 60, .inl (upd g n v)))] := hD
  exact W.vret hx hb hrt (fun t9 ht9 hW9 => ⟨⟨(), rfl, trivial, wd_end hK hP hD [0, 1, 2] (by decide) rfl t9 ht9 hW9⟩, hS.F ht9⟩) hS.2.2 dX0_put_22 hlk

abbrev rm_X0_empty : Room := { frames := 0, cells := 0, slots := 0, locals := 0 }
theorem k_X0_empty : Cal yX0_empty wsX0_empty rm_X0_empty cX0_empty 2 (some .int) 0 0 0 := ⟨⟨_, rfl⟩, rfl, rfl, by decide +kernel⟩
set_option maxHeartbeats 4000000 in
set_option maxRecDepth 100000 in
theorem m_X0_empty (l : Launch) (Γ : Gm) (sz : Nat) (q : Nat → Nat) (g : Nat → Int32) (n : Nat) (z : Int32) (hz : z = nI n) : MWi (S := Unit) l yX0_empty wsX0_empty rm_X0_empty Γ sz [(q 0, .inr (0, [.ref (q 1), .int z])), (q 1, .inr (3, [.ref (q 2)])), (q 2, .inl (Γ.2.1, 60, .inl g))] [.ref (q 0)] (fun r u => r = nI n) (fun u => [(q 0, .inr (0, [.ref (q 1), .int (nI 0)])), (q 1, .inr (3, [.ref (q 2)])), (q 2, .inl (Γ.2.1, 60, .inl g))]) 0 0 := by
  refine mW (cc := cX0_empty) (maxL := 2) (ret := (some .int)) (own := RX0) (by decide) rfl rfl (Nat.le_of_ble_eq_true rfl) ?_
  intro p e s m args below meth c S hrt hlk hin hsz hK hP hD hA hS ls hl
  subst hsz
  generalize hAe : va_A ([(q 0, .inr (0, [.ref (q 1), .int z])), (q 1, .inr (3, [.ref (q 2)])), (q 2, .inl (Γ.2.1, 60, .inl g))]) s.heap.size = A at hD hA hS ⊢
  obtain ⟨hx, hb, hml, hown, hts⟩ := id S
  have hl : lv_has ls 2 [(0, .ref (q 0))] := hl
  have hH : s.heap = s.heap := rfl
  refine lv_aload_n hx hb dX0_empty_0 rfl (lv_at hl 0 rfl) ?_
  refine va_get (D := Γ.1) (ci := 0) (v := .int z) (C := RX0) (T := TX0) (N := 2) hx hb hts (by decide +kernel) hown hK hP 0 rfl rfl 1 (by decide) (hts (.fieldLink RX0 20 "RowVeils$Buffer" "length" "I") (by decide +kernel)) (fun _ h9 => h9) rfl dX0_empty_1 ?_
  refine asi (z := nI n) hz ?_
  refine lv_istore_n (lv' := [(1, .int (nI n)), (0, .ref (q 0))]) hx hb dX0_empty_4 rfl hl (by decide) rfl (fun ls hl => ?_)
  refine lv_aload_n hx hb dX0_empty_5 rfl (lv_at hl 1 rfl) ?_
  refine lv_iconst (v := nI 0) hx hb dX0_empty_6 (by decide) ?_
  refine va_put (D := Γ.1) (ci := 0) (v := .int (nI 0)) (ty := .int) (C := RX0) (T := TX0) (N := 2) hx hb hts (by decide +kernel) tyX0 tyX0_ok nmX0 hown hK hP hD hS 0 rfl rfl 1 (by decide) (hts (.fieldLink RX0 20 "RowVeils$Buffer" "length" "I") (by decide +kernel)) (fun _ h9 => h9) rfl (by decide +kernel) rfl rfl (Nat.le_of_ble_eq_true rfl) dX0_empty_7 (fun H locs hP hD hS => ?_)
  have hP : gP Γ [(q 0, .inr (0, [.ref (q 1), .int (nI 0)])), (q 1, .inr (3, [.ref (q 2)])), (q 2, .inl (Γ.2.1, 60, .inl g))] H := hP
  have hD : va_D A [(q 0, .inr (0, [.ref (q 1), .int (nI 0)])), (q 1, .inr (3, [.ref (q 2)])), (q 2, .inl (Γ.2.1, 60, .inl g))] := hD
  refine lv_iload_n hx hb dX0_empty_10 rfl (lv_at hl 0 rfl) ?_
  exact W.iret (v := nI n) hx hb hrt (fun t9 ht9 hW9 => ⟨⟨_, (), rfl, rfl, wd_end hK hP hD [0, 1, 2] (by decide) rfl t9 ht9 hW9⟩, hS.F ht9⟩) hS.2.2 dX0_empty_11 hlk

abbrev rm_X0_isDigit : Room := { frames := 0, cells := 0, slots := 0, locals := 0 }
theorem k_X0_isDigit : Cal yX0_isDigit wsX0_isDigit rm_X0_isDigit cX0_isDigit 1 (some .boolean) 1 0 0 := ⟨⟨_, rfl⟩, rfl, rfl, by decide +kernel⟩
set_option maxHeartbeats 4000000 in
set_option maxRecDepth 100000 in
theorem m_X0_isDigit (l : Launch) (x : Nat) (hx0 : x < 127) : MSi l yX0_isDigit wsX0_isDigit rm_X0_isDigit [.int (nI x)] (fun r => r = bI (digQ x)) := by
  refine mS (cc := cX0_isDigit) (maxL := 1) (ret := (some .boolean)) (own := RX0) (by decide) rfl rfl (Nat.le_of_ble_eq_true rfl) ?_
  intro p e s m args below meth c S hrt hlk ls hl
  obtain ⟨hx, hb, hml, hown, hts⟩ := id S
  have hl : lv_has ls 1 [(0, .int (nI x))] := hl
  refine lv_iload_n hx hb dX0_isDigit_0 rfl (lv_at hl 0 rfl) ?_
  refine lv_bipush (v := nI 48) hx hb dX0_isDigit_1 (by decide) ?_
  refine lv_icmp_lt (tgt := 16) hx hb dX0_isDigit_3 (by decide) (fun c_3 => ?_) (fun c_3 => ?_)
  · have n_3 := (nI_ltI (a := x) (b := 48) (by omega) (by omega)).mp c_3
    refine lv_iconst (v := nI 0) hx hb dX0_isDigit_16 (by decide) ?_
    exact W.zret (v := nI 0) hx hb hrt (z0) (fun t9 ht9 hW9 => ⟨_, rfl, bf (digQ_f (by omega)), ht9⟩) (fun _ h9 => nomatch h9) dX0_isDigit_17 hlk
  · have n_3 := (not_congr (nI_ltI (a := x) (b := 48) (by omega) (by omega))).mp c_3
    refine lv_iload_n hx hb dX0_isDigit_6 rfl (lv_at hl 0 rfl) ?_
    refine lv_bipush (v := nI 57) hx hb dX0_isDigit_7 (by decide) ?_
    refine lv_icmp_gt (tgt := 16) hx hb dX0_isDigit_9 (by decide) (fun c_9 => ?_) (fun c_9 => ?_)
    · have n_9 := (nI_ltI (a := 57) (b := x) (by omega) (by omega)).mp c_9
      refine lv_iconst (v := nI 0) hx hb dX0_isDigit_16 (by decide) ?_
      exact W.zret (v := nI 0) hx hb hrt (z0) (fun t9 ht9 hW9 => ⟨_, rfl, bf (digQ_f (by omega)), ht9⟩) (fun _ h9 => nomatch h9) dX0_isDigit_17 hlk
    · have n_9 := (not_congr (nI_ltI (a := 57) (b := x) (by omega) (by omega))).mp c_9
      refine lv_iconst (v := nI 1) hx hb dX0_isDigit_12 (by decide) ?_
      refine lv_goto (tgt := 17) hx hb dX0_isDigit_13 (by decide) ?_
      exact W.zret (v := nI 1) hx hb hrt (z1) (fun t9 ht9 hW9 => ⟨_, rfl, bt (digQ_t.mpr (by omega)), ht9⟩) (fun _ h9 => nomatch h9) dX0_isDigit_17 hlk

abbrev rm_X0_placeOf : Room := { frames := 0, cells := 0, slots := 0, locals := 0 }
theorem k_X0_placeOf : Cal yX0_placeOf wsX0_placeOf rm_X0_placeOf cX0_placeOf 1 (some .int) 1 0 0 := ⟨⟨_, rfl⟩, rfl, rfl, by decide +kernel⟩
set_option maxHeartbeats 4000000 in
set_option maxRecDepth 100000 in
theorem m_X0_placeOf (l : Launch) (x : Nat) (hx0 : x < 127) : MSi l yX0_placeOf wsX0_placeOf rm_X0_placeOf [.int (nI x)] (fun r => r = plI x) := by
  refine mS (cc := cX0_placeOf) (maxL := 1) (ret := (some .int)) (own := RX0) (by decide) rfl rfl (Nat.le_of_ble_eq_true rfl) ?_
  intro p e s m args below meth c S hrt hlk ls hl
  obtain ⟨hx, hb, hml, hown, hts⟩ := id S
  have hl : lv_has ls 1 [(0, .int (nI x))] := hl
  refine lv_iload_n hx hb dX0_placeOf_0 rfl (lv_at hl 0 rfl) ?_
  by_cases e101 : x = 101
  · subst e101
    refine lv_lookup (off := 45) (tgt := 46) hx hb dX0_placeOf_1 (by decide) (by decide) (by decide) ?_
    refine lv_iconst (v := nI 1) hx hb dX0_placeOf_46 (by decide) ?_
    exact W.iret (v := nI 1) hx hb hrt (fun t9 ht9 hW9 => ⟨_, rfl, rfl, ht9⟩) (fun _ h9 => nomatch h9) dX0_placeOf_47 hlk
  by_cases e110 : x = 110
  · subst e110
    refine lv_lookup (off := 43) (tgt := 44) hx hb dX0_placeOf_1 (by decide) (by decide) (by decide) ?_
    refine lv_iconst (v := nI 0) hx hb dX0_placeOf_44 (by decide) ?_
    exact W.iret (v := nI 0) hx hb hrt (fun t9 ht9 hW9 => ⟨_, rfl, rfl, ht9⟩) (fun _ h9 => nomatch h9) dX0_placeOf_45 hlk
  by_cases e115 : x = 115
  · subst e115
    refine lv_lookup (off := 47) (tgt := 48) hx hb dX0_placeOf_1 (by decide) (by decide) (by decide) ?_
    refine lv_iconst (v := nI 2) hx hb dX0_placeOf_48 (by decide) ?_
    exact W.iret (v := nI 2) hx hb hrt (fun t9 ht9 hW9 => ⟨_, rfl, rfl, ht9⟩) (fun _ h9 => nomatch h9) dX0_placeOf_49 hlk
  by_cases e119 : x = 119
  · subst e119
    refine lv_lookup (off := 49) (tgt := 50) hx hb dX0_placeOf_1 (by decide) (by decide) (by decide) ?_
    refine lv_iconst (v := nI 3) hx hb dX0_placeOf_50 (by decide) ?_
    exact W.iret (v := nI 3) hx hb hrt (fun t9 ht9 hW9 => ⟨_, rfl, rfl, ht9⟩) (fun _ h9 => nomatch h9) dX0_placeOf_51 hlk
  refine lv_lookup (off := 51) (tgt := 52) hx hb dX0_placeOf_1 (by decide) (pl_off (fun h => e101 ((nI_eq (by omega) (by decide)).mp h)) (fun h => e110 ((nI_eq (by omega) (by decide)).mp h)) (fun h => e115 ((nI_eq (by omega) (by decide)).mp h)) (fun h => e119 ((nI_eq (by omega) (by decide)).mp h))) (by decide) ?_
  refine lv_iconst (v := (-1)) hx hb dX0_placeOf_52 (by decide) ?_
  exact W.iret (v := (-1)) hx hb hrt (fun t9 ht9 hW9 => ⟨_, rfl, by unfold plI plN; rw [if_neg e110, if_neg e101, if_neg e115, if_neg e119]; rfl, ht9⟩) (fun _ h9 => nomatch h9) dX0_placeOf_53 hlk

abbrev rm_X0_stageAfterValue : Room := { frames := 0, cells := 0, slots := 0, locals := 0 }
theorem k_X0_stageAfterValue : Cal yX0_stageAfterValue wsX0_stageAfterValue rm_X0_stageAfterValue cX0_stageAfterValue 2 (some .int) 2 0 0 := ⟨⟨_, rfl⟩, rfl, rfl, by decide +kernel⟩
set_option maxHeartbeats 4000000 in
set_option maxRecDepth 100000 in
theorem m_X0_stageAfterValue (l : Launch) (w x : Nat) (hw : w < 8) (hx0 : x < 127) : MSi l yX0_stageAfterValue wsX0_stageAfterValue rm_X0_stageAfterValue [.int (nI w), .int (nI x)] (fun r => r = sI (spv w x)) := by
  refine mS (cc := cX0_stageAfterValue) (maxL := 2) (ret := (some .int)) (own := RX0) (by decide) rfl rfl (Nat.le_of_ble_eq_true rfl) ?_
  intro p e s m args below meth c S hrt hlk ls hl
  obtain ⟨hx, hb, hml, hown, hts⟩ := id S
  have hl : lv_has ls 2 [(0, .int (nI w)), (1, .int (nI x))] := hl
  refine lv_iload_n hx hb dX0_stageAfterValue_0 rfl (lv_at hl 1 rfl) ?_
  refine lv_bipush (v := nI 44) hx hb dX0_stageAfterValue_1 (by decide) ?_
  refine lv_icmp_ne (tgt := 8) hx hb dX0_stageAfterValue_3 (by decide) (fun c_3 => ?_) (fun c_3 => ?_)
  · have n_3 := (not_congr (nI_eq (a := x) (b := 44) (by omega) (by omega))).mp c_3
    refine lv_iload_n hx hb dX0_stageAfterValue_8 rfl (lv_at hl 1 rfl) ?_
    refine lv_bipush (v := nI 33) hx hb dX0_stageAfterValue_9 (by decide) ?_
    refine lv_icmp_ne (tgt := 31) hx hb dX0_stageAfterValue_11 (by decide) (fun c_11 => ?_) (fun c_11 => ?_)
    · have n_11 := (not_congr (nI_eq (a := x) (b := 33) (by omega) (by omega))).mp c_11
      refine lv_iconst (v := (-1)) hx hb dX0_stageAfterValue_31 (by decide) ?_
      exact W.iret (v := (-1)) hx hb hrt (fun t9 ht9 hW9 => ⟨_, rfl, by unfold spv; rw [if_neg n_3, if_neg (by omega)]; rfl, ht9⟩) (fun _ h9 => nomatch h9) dX0_stageAfterValue_32 hlk
    · have n_11 := (nI_eq (a := x) (b := 33) (by omega) (by omega)).mp c_11
      refine lv_iload_n hx hb dX0_stageAfterValue_14 rfl (lv_at hl 0 rfl) ?_
      refine lv_iconst (v := nI 4) hx hb dX0_stageAfterValue_15 (by decide) ?_
      refine lv_icmp_lt (tgt := 31) hx hb dX0_stageAfterValue_16 (by decide) (fun c_16 => ?_) (fun c_16 => ?_)
      · have n_16 := (nI_ltI (a := w) (b := 4) (by omega) (by omega)).mp c_16
        refine lv_iconst (v := (-1)) hx hb dX0_stageAfterValue_31 (by decide) ?_
        exact W.iret (v := (-1)) hx hb hrt (fun t9 ht9 hW9 => ⟨_, rfl, by unfold spv; rw [if_neg n_3, if_neg (by omega)]; rfl, ht9⟩) (fun _ h9 => nomatch h9) dX0_stageAfterValue_32 hlk
      · have n_16 := (not_congr (nI_ltI (a := w) (b := 4) (by omega) (by omega))).mp c_16
        refine lv_iload_n hx hb dX0_stageAfterValue_19 rfl (lv_at hl 0 rfl) ?_
        refine lv_bipush (v := nI 7) hx hb dX0_stageAfterValue_20 (by decide) ?_
        refine lv_icmp_ge (tgt := 31) hx hb dX0_stageAfterValue_22 (by decide) (fun c_22 => ?_) (fun c_22 => ?_)
        · have n_22 := (nI_leI (a := 7) (b := w) (by omega) (by omega)).mp c_22
          refine lv_iconst (v := (-1)) hx hb dX0_stageAfterValue_31 (by decide) ?_
          exact W.iret (v := (-1)) hx hb hrt (fun t9 ht9 hW9 => ⟨_, rfl, by unfold spv; rw [if_neg n_3, if_neg (by omega)]; rfl, ht9⟩) (fun _ h9 => nomatch h9) dX0_stageAfterValue_32 hlk
        · have n_22 := (not_congr (nI_leI (a := 7) (b := w) (by omega) (by omega))).mp c_22
          refine lv_iload_n hx hb dX0_stageAfterValue_25 rfl (lv_at hl 0 rfl) ?_
          refine lv_iconst (v := nI 1) hx hb dX0_stageAfterValue_26 (by decide) ?_
          refine lv_iadd hx hb dX0_stageAfterValue_27 ?_
          refine asi (z := nI (w + 1)) (nI_add _ _) ?_
          refine lv_goto (tgt := 32) hx hb dX0_stageAfterValue_28 (by decide) ?_
          exact W.iret (v := nI (w + 1)) hx hb hrt (fun t9 ht9 hW9 => ⟨_, rfl, by unfold spv; rw [if_neg n_3, if_pos (by omega)]; unfold sI; rw [if_neg (by omega)], ht9⟩) (fun _ h9 => nomatch h9) dX0_stageAfterValue_32 hlk
  · have n_3 := (nI_eq (a := x) (b := 44) (by omega) (by omega)).mp c_3
    refine lv_iconst (v := nI 0) hx hb dX0_stageAfterValue_6 (by decide) ?_
    exact W.iret (v := nI 0) hx hb hrt (fun t9 ht9 hW9 => ⟨_, rfl, by unfold spv; rw [if_pos n_3]; rfl, ht9⟩) (fun _ h9 => nomatch h9) dX0_stageAfterValue_7 hlk

abbrev rm_X0_stageAfter : Room := { frames := 1, cells := 0, slots := 0, locals := 21 }
theorem k_X0_stageAfter : Cal yX0_stageAfter wsX0_stageAfter rm_X0_stageAfter cX0_stageAfter 2 (some .int) 2 0 0 := ⟨⟨_, rfl⟩, rfl, rfl, by decide +kernel⟩
set_option maxHeartbeats 4000000 in
set_option maxRecDepth 100000 in
theorem m_X0_stageAfter (l : Launch) (w x : Nat) (hw : w < 8) (hx0 : x < 127) : MSi l yX0_stageAfter wsX0_stageAfter rm_X0_stageAfter [.int (sI w), .int (nI x)] (fun r => r = sI (stp w x)) := by
  refine mS (cc := cX0_stageAfter) (maxL := 2) (ret := (some .int)) (own := RX0) (by decide) rfl rfl (Nat.le_of_ble_eq_true rfl) ?_
  intro p e s m args below meth c S hrt hlk ls hl
  obtain ⟨hx, hb, hml, hown, hts⟩ := id S
  have hl : lv_has ls 2 [(0, .int (sI w)), (1, .int (nI x))] := hl
  refine lv_iload_n hx hb dX0_stageAfter_0 rfl (lv_at hl 0 rfl) ?_
  rcases (by omega : w = 0 ∨ w = 1 ∨ w = 2 ∨ w = 3 ∨ w = 4 ∨ w = 5 ∨ w = 6 ∨ w = 7) with rfl | rfl | rfl | rfl | rfl | rfl | rfl | rfl
  · refine lv_tableIn (off := 31) (tgt := 32) hx hb dX0_stageAfter_1 (by decide) (by decide) (by decide) (by decide) ?_
    refine lv_iload_n hx hb dX0_stageAfter_32 rfl (lv_at hl 1 rfl) ?_
    refine lv_bipush (v := nI 48) hx hb dX0_stageAfter_33 (by decide) ?_
    refine lv_icmp_lt (tgt := 48) hx hb dX0_stageAfter_35 (by decide) (fun c_35 => ?_) (fun c_35 => ?_)
    · have n_35 := (nI_ltI (a := x) (b := 48) (by omega) (by omega)).mp c_35
      refine lv_iconst (v := (-1)) hx hb dX0_stageAfter_48 (by decide) ?_
      exact W.iret (v := (-1)) hx hb hrt (fun t9 ht9 hW9 => ⟨_, rfl, by rw [stp_0, if_neg (by omega)]; rfl, ht9⟩) (fun _ h9 => nomatch h9) dX0_stageAfter_49 hlk
    · have n_35 := (not_congr (nI_ltI (a := x) (b := 48) (by omega) (by omega))).mp c_35
      refine lv_iload_n hx hb dX0_stageAfter_38 rfl (lv_at hl 1 rfl) ?_
      refine lv_bipush (v := nI 53) hx hb dX0_stageAfter_39 (by decide) ?_
      refine lv_icmp_ge (tgt := 48) hx hb dX0_stageAfter_41 (by decide) (fun c_41 => ?_) (fun c_41 => ?_)
      · have n_41 := (nI_leI (a := 53) (b := x) (by omega) (by omega)).mp c_41
        refine lv_iconst (v := (-1)) hx hb dX0_stageAfter_48 (by decide) ?_
        exact W.iret (v := (-1)) hx hb hrt (fun t9 ht9 hW9 => ⟨_, rfl, by rw [stp_0, if_neg (by omega)]; rfl, ht9⟩) (fun _ h9 => nomatch h9) dX0_stageAfter_49 hlk
      · have n_41 := (not_congr (nI_leI (a := 53) (b := x) (by omega) (by omega))).mp c_41
        refine lv_iconst (v := nI 1) hx hb dX0_stageAfter_44 (by decide) ?_
        refine lv_goto (tgt := 49) hx hb dX0_stageAfter_45 (by decide) ?_
        exact W.iret (v := nI 1) hx hb hrt (fun t9 ht9 hW9 => ⟨_, rfl, by rw [stp_0, if_pos (by omega)]; rfl, ht9⟩) (fun _ h9 => nomatch h9) dX0_stageAfter_49 hlk
  · refine lv_tableIn (off := 49) (tgt := 50) hx hb dX0_stageAfter_1 (by decide) (by decide) (by decide) (by decide) ?_
    refine lv_iload_n hx hb dX0_stageAfter_50 rfl (lv_at hl 1 rfl) ?_
    refine cSi (As := [.int (nI x)]) (rest := []) (m_X0_placeOf l x (by omega)) S k_X0_placeOf gX0_stageAfter_X0_placeOf ⟨Nat.le_of_ble_eq_true rfl, Nat.le_of_ble_eq_true rfl⟩ rfl hl.1 (Nat.le_of_ble_eq_true rfl) rfl dX0_stageAfter_51 ⟨Nat.le_of_ble_eq_true rfl, Nat.le_of_ble_eq_true rfl⟩ (fun r hr => ?_)
    subst hr
    refine lv_iconst (v := (-1)) hx hb dX0_stageAfter_54 (by decide) ?_
    refine lv_icmp_eq (tgt := 62) hx hb dX0_stageAfter_55 (by decide) (fun c_55 => ?_) (fun c_55 => ?_)
    · have n_55 := plI_m1.mp c_55
      refine lv_iconst (v := (-1)) hx hb dX0_stageAfter_62 (by decide) ?_
      exact W.iret (v := (-1)) hx hb hrt (fun t9 ht9 hW9 => ⟨_, rfl, by rw [stp_1, if_pos n_55]; rfl, ht9⟩) (fun _ h9 => nomatch h9) dX0_stageAfter_63 hlk
    · have n_55 : ¬ plN x = 4 := fun h => c_55 (plI_m1.mpr h)
      refine lv_iconst (v := nI 2) hx hb dX0_stageAfter_58 (by decide) ?_
      refine lv_goto (tgt := 63) hx hb dX0_stageAfter_59 (by decide) ?_
      exact W.iret (v := nI 2) hx hb hrt (fun t9 ht9 hW9 => ⟨_, rfl, by rw [stp_1, if_neg n_55]; rfl, ht9⟩) (fun _ h9 => nomatch h9) dX0_stageAfter_63 hlk
  · refine lv_tableIn (off := 63) (tgt := 64) hx hb dX0_stageAfter_1 (by decide) (by decide) (by decide) (by decide) ?_
    refine lv_iload_n hx hb dX0_stageAfter_64 rfl (lv_at hl 1 rfl) ?_
    refine lv_bipush (v := nI 48) hx hb dX0_stageAfter_65 (by decide) ?_
    refine lv_icmp_ne (tgt := 74) hx hb dX0_stageAfter_67 (by decide) (fun c_67 => ?_) (fun c_67 => ?_)
    · have n_67 := (not_congr (nI_eq (a := x) (b := 48) (by omega) (by omega))).mp c_67
      refine lv_iload_n hx hb dX0_stageAfter_74 rfl (lv_at hl 1 rfl) ?_
      refine cSi (As := [.int (nI x)]) (rest := []) (m_X0_isDigit l x (by omega)) S k_X0_isDigit gX0_stageAfter_X0_isDigit ⟨Nat.le_of_ble_eq_true rfl, Nat.le_of_ble_eq_true rfl⟩ rfl hl.1 (Nat.le_of_ble_eq_true rfl) rfl dX0_stageAfter_75 ⟨Nat.le_of_ble_eq_true rfl, Nat.le_of_ble_eq_true rfl⟩ (fun r hr => ?_)
      subst hr
      refine lv_if_eq (tgt := 85) hx hb dX0_stageAfter_78 (by decide) (fun c_78 => ?_) (fun c_78 => ?_)
      · have n_78 := bI_z.mp c_78
        refine lv_iconst (v := (-1)) hx hb dX0_stageAfter_85 (by decide) ?_
        exact W.iret (v := (-1)) hx hb hrt (fun t9 ht9 hW9 => ⟨_, rfl, by rw [stp_2, if_neg n_67, if_neg (by rw [n_78]; decide)]; rfl, ht9⟩) (fun _ h9 => nomatch h9) dX0_stageAfter_86 hlk
      · have n_78 := bI_nz.mp c_78
        refine lv_iconst (v := nI 3) hx hb dX0_stageAfter_81 (by decide) ?_
        refine lv_goto (tgt := 86) hx hb dX0_stageAfter_82 (by decide) ?_
        exact W.iret (v := nI 3) hx hb hrt (fun t9 ht9 hW9 => ⟨_, rfl, by rw [stp_2, if_neg n_67, if_pos n_78]; rfl, ht9⟩) (fun _ h9 => nomatch h9) dX0_stageAfter_86 hlk
    · have n_67 := (nI_eq (a := x) (b := 48) (by omega) (by omega)).mp c_67
      refine lv_iconst (v := nI 4) hx hb dX0_stageAfter_70 (by decide) ?_
      refine lv_goto (tgt := 86) hx hb dX0_stageAfter_71 (by decide) ?_
      exact W.iret (v := nI 4) hx hb hrt (fun t9 ht9 hW9 => ⟨_, rfl, by rw [stp_2, if_pos n_67]; rfl, ht9⟩) (fun _ h9 => nomatch h9) dX0_stageAfter_86 hlk
  · refine lv_tableIn (off := 86) (tgt := 87) hx hb dX0_stageAfter_1 (by decide) (by decide) (by decide) (by decide) ?_
    refine lv_iload_n hx hb dX0_stageAfter_87 rfl (lv_at hl 1 rfl) ?_
    refine cSi (As := [.int (nI x)]) (rest := []) (m_X0_isDigit l x (by omega)) S k_X0_isDigit gX0_stageAfter_X0_isDigit ⟨Nat.le_of_ble_eq_true rfl, Nat.le_of_ble_eq_true rfl⟩ rfl hl.1 (Nat.le_of_ble_eq_true rfl) rfl dX0_stageAfter_88 ⟨Nat.le_of_ble_eq_true rfl, Nat.le_of_ble_eq_true rfl⟩ (fun r hr => ?_)
    subst hr
    refine lv_if_eq (tgt := 98) hx hb dX0_stageAfter_91 (by decide) (fun c_91 => ?_) (fun c_91 => ?_)
    · have n_91 := bI_z.mp c_91
      refine lv_iconst (v := nI 4) hx hb dX0_stageAfter_98 (by decide) ?_
      refine lv_iload_n hx hb dX0_stageAfter_99 rfl (lv_at hl 1 rfl) ?_
      refine cSi (As := [.int (nI 4), .int (nI x)]) (rest := []) (m_X0_stageAfterValue l 4 x (by omega) (by omega)) S k_X0_stageAfterValue gX0_stageAfter_X0_stageAfterValue ⟨Nat.le_of_ble_eq_true rfl, Nat.le_of_ble_eq_true rfl⟩ rfl hl.1 (Nat.le_of_ble_eq_true rfl) rfl dX0_stageAfter_100 ⟨Nat.le_of_ble_eq_true rfl, Nat.le_of_ble_eq_true rfl⟩ (fun r hr => ?_)
      subst hr
      exact W.iret (v := sI (spv 4 x)) hx hb hrt (fun t9 ht9 hW9 => ⟨_, rfl, by rw [stp_3, if_neg (by rw [n_91]; decide)], ht9⟩) (fun _ h9 => nomatch h9) dX0_stageAfter_103 hlk
    · have n_91 := bI_nz.mp c_91
      refine lv_iconst (v := nI 4) hx hb dX0_stageAfter_94 (by decide) ?_
      refine lv_goto (tgt := 103) hx hb dX0_stageAfter_95 (by decide) ?_
      exact W.iret (v := nI 4) hx hb hrt (fun t9 ht9 hW9 => ⟨_, rfl, by rw [stp_3, if_pos n_91]; rfl, ht9⟩) (fun _ h9 => nomatch h9) dX0_stageAfter_103 hlk
  · refine lv_tableOut (tgt := 104) hx hb dX0_stageAfter_1 (by decide) (by decide) ?_
    refine lv_iload_n hx hb dX0_stageAfter_104 rfl (lv_at hl 0 rfl) ?_
    refine lv_iload_n hx hb dX0_stageAfter_105 rfl (lv_at hl 1 rfl) ?_
    refine cSi (As := [.int (sI 4), .int (nI x)]) (rest := []) (m_X0_stageAfterValue l 4 x (by omega) (by omega)) S k_X0_stageAfterValue gX0_stageAfter_X0_stageAfterValue ⟨Nat.le_of_ble_eq_true rfl, Nat.le_of_ble_eq_true rfl⟩ rfl hl.1 (Nat.le_of_ble_eq_true rfl) rfl dX0_stageAfter_106 ⟨Nat.le_of_ble_eq_true rfl, Nat.le_of_ble_eq_true rfl⟩ (fun r hr => ?_)
    subst hr
    exact W.iret (v := sI (spv 4 x)) hx hb hrt (fun t9 ht9 hW9 => ⟨_, rfl, rfl, ht9⟩) (fun _ h9 => nomatch h9) dX0_stageAfter_109 hlk
  · refine lv_tableOut (tgt := 104) hx hb dX0_stageAfter_1 (by decide) (by decide) ?_
    refine lv_iload_n hx hb dX0_stageAfter_104 rfl (lv_at hl 0 rfl) ?_
    refine lv_iload_n hx hb dX0_stageAfter_105 rfl (lv_at hl 1 rfl) ?_
    refine cSi (As := [.int (sI 5), .int (nI x)]) (rest := []) (m_X0_stageAfterValue l 5 x (by omega) (by omega)) S k_X0_stageAfterValue gX0_stageAfter_X0_stageAfterValue ⟨Nat.le_of_ble_eq_true rfl, Nat.le_of_ble_eq_true rfl⟩ rfl hl.1 (Nat.le_of_ble_eq_true rfl) rfl dX0_stageAfter_106 ⟨Nat.le_of_ble_eq_true rfl, Nat.le_of_ble_eq_true rfl⟩ (fun r hr => ?_)
    subst hr
    exact W.iret (v := sI (spv 5 x)) hx hb hrt (fun t9 ht9 hW9 => ⟨_, rfl, rfl, ht9⟩) (fun _ h9 => nomatch h9) dX0_stageAfter_109 hlk
  · refine lv_tableOut (tgt := 104) hx hb dX0_stageAfter_1 (by decide) (by decide) ?_
    refine lv_iload_n hx hb dX0_stageAfter_104 rfl (lv_at hl 0 rfl) ?_
    refine lv_iload_n hx hb dX0_stageAfter_105 rfl (lv_at hl 1 rfl) ?_
    refine cSi (As := [.int (sI 6), .int (nI x)]) (rest := []) (m_X0_stageAfterValue l 6 x (by omega) (by omega)) S k_X0_stageAfterValue gX0_stageAfter_X0_stageAfterValue ⟨Nat.le_of_ble_eq_true rfl, Nat.le_of_ble_eq_true rfl⟩ rfl hl.1 (Nat.le_of_ble_eq_true rfl) rfl dX0_stageAfter_106 ⟨Nat.le_of_ble_eq_true rfl, Nat.le_of_ble_eq_true rfl⟩ (fun r hr => ?_)
    subst hr
    exact W.iret (v := sI (spv 6 x)) hx hb hrt (fun t9 ht9 hW9 => ⟨_, rfl, rfl, ht9⟩) (fun _ h9 => nomatch h9) dX0_stageAfter_109 hlk
  · refine lv_tableOut (tgt := 104) hx hb dX0_stageAfter_1 (by decide) (by decide) ?_
    refine lv_iload_n hx hb dX0_stageAfter_104 rfl (lv_at hl 0 rfl) ?_
    refine lv_iload_n hx hb dX0_stageAfter_105 rfl (lv_at hl 1 rfl) ?_
    refine cSi (As := [.int (sI 7), .int (nI x)]) (rest := []) (m_X0_stageAfterValue l 7 x (by omega) (by omega)) S k_X0_stageAfterValue gX0_stageAfter_X0_stageAfterValue ⟨Nat.le_of_ble_eq_true rfl, Nat.le_of_ble_eq_true rfl⟩ rfl hl.1 (Nat.le_of_ble_eq_true rfl) rfl dX0_stageAfter_106 ⟨Nat.le_of_ble_eq_true rfl, Nat.le_of_ble_eq_true rfl⟩ (fun r hr => ?_)
    subst hr
    exact W.iret (v := sI (spv 7 x)) hx hb hrt (fun t9 ht9 hW9 => ⟨_, rfl, rfl, ht9⟩) (fun _ h9 => nomatch h9) dX0_stageAfter_109 hlk

abbrev rm_X0_errorIndex : Room := { frames := 2, cells := 0, slots := 0, locals := 42 }
theorem k_X0_errorIndex : Cal yX0_errorIndex wsX0_errorIndex rm_X0_errorIndex cX0_errorIndex 3 (some .int) 0 0 0 := ⟨⟨_, rfl⟩, rfl, rfl, by decide +kernel⟩
set_option maxHeartbeats 4000000 in
set_option maxRecDepth 100000 in
theorem m_X0_errorIndex (l : Launch) (Γ : Gm) (q : Nat → Nat) (g : Nat → Int32) (B : Nat → Nat) (n : Nat) (hn : n ≤ 60) (hB : ∀ i, i < n → g i = nI (B i) ∧ B i < 127) (z : Int32) (hz : z = nI n)  : MRi l yX0_errorIndex wsX0_errorIndex rm_X0_errorIndex Γ [(q 0, .inr (0, [.ref (q 1), .int z])), (q 1, .inr (3, [.ref (q 2)])), (q 2, .inl (Γ.2.1, 60, .inl g))] [.ref (q 0)] (fun r => r = nI (errN B n)) := by
  refine mR (cc := cX0_errorIndex) (maxL := 3) (ret := (some .int)) (own := RX0) (by decide) rfl rfl (Nat.le_of_ble_eq_true rfl) ?_
  intro p e s m args below meth c S hrt hlk hK hP ls hl
  obtain ⟨hx, hb, hml, hown, hts⟩ := id S
  have hl : lv_has ls 3 [(0, .ref (q 0))] := hl
  have hP : gP Γ [(q 0, .inr (0, [.ref (q 1), .int z])), (q 1, .inr (3, [.ref (q 2)])), (q 2, .inl (Γ.2.1, 60, .inl g))] s.heap := hP
  have L_4 : ∀ (fuel : Nat), ∀ (k : Nat) (x1 : Int32) (hk : k ≤ n) (hfk : n - k < fuel) (e_x1 : x1 = sI (sg B k)) (hs8 : ¬ sg B k = 8) (her : errN B n = erF B (n - k) k), ∀ ls : Array Slot, lv_has ls 3 [(0, .ref (q 0)), (2, .int (nI k)), (1, .int x1)] → W p l e rm_X0_errorIndex s m args below meth c s.heap [] 0 0 (MQ below (vp_Si (fun r => r = nI (errN B n))) args s 0 0 (fun _ => False)) (F0 m 4 ls []) := by
    intro fuel
    induction fuel with
    | zero => intro k x1 hk hfk e_x1 hs8 her; exact absurd hfk (by omega)
    | succ fuel ih_4 =>
      intro k x1 hk hfk e_x1 hs8 her ls hl
      subst e_x1
      refine lv_iload_n hx hb dX0_errorIndex_4 rfl (lv_at hl 1 rfl) ?_
      refine lv_aload_n hx hb dX0_errorIndex_5 rfl (lv_at hl 0 rfl) ?_
      refine va_get (D := Γ.1) (ci := 0) (v := .int z) (C := RX0) (T := TX0) (N := 2) hx hb hts (by decide +kernel) hown hK hP 0 rfl rfl 1 (by decide) (hts (.fieldLink RX0 20 "RowVeils$Buffer" "length" "I") (by decide +kernel)) (fun _ h9 => h9) rfl dX0_errorIndex_6 ?_
      refine asi (z := nI n) hz ?_
      refine lv_icmp_ge (tgt := 38) hx hb dX0_errorIndex_9 (by decide) (fun c_9 => ?_) (fun c_9 => ?_)
      · have n_9 := (nI_leI (a := n) (b := k) (by omega) (by omega)).mp c_9
        refine lv_aload_n hx hb dX0_errorIndex_38 rfl (lv_at hl 0 rfl) ?_
        refine va_get (D := Γ.1) (ci := 0) (v := .int z) (C := RX0) (T := TX0) (N := 2) hx hb hts (by decide +kernel) hown hK hP 0 rfl rfl 1 (by decide) (hts (.fieldLink RX0 20 "RowVeils$Buffer" "length" "I") (by decide +kernel)) (fun _ h9 => h9) rfl dX0_errorIndex_39 ?_
        refine asi (z := nI n) hz ?_
        exact W.iret (v := nI n) hx hb hrt (fun t9 ht9 hW9 => ⟨_, rfl, by rw [her, show n - k = 0 from by omega]; exact congrArg nI (show n = k by omega), ht9⟩) (fun _ h9 => nomatch h9) dX0_errorIndex_42 hlk
      · have n_9 := (not_congr (nI_leI (a := n) (b := k) (by omega) (by omega))).mp c_9
        refine lv_iload_n hx hb dX0_errorIndex_12 rfl (lv_at hl 2 rfl) ?_
        refine lv_aload_n hx hb dX0_errorIndex_13 rfl (lv_at hl 0 rfl) ?_
        refine va_get (D := Γ.1) (ci := 0) (v := .ref (q 1)) (C := RX0) (T := TX0) (N := 2) hx hb hts (by decide +kernel) hown hK hP 0 rfl rfl 0 (by decide) (hts (.fieldLink RX0 14 "RowVeils$Buffer" "codes" "LRowVeils$Numbers;") (by decide +kernel)) (fun _ h9 => h9) rfl dX0_errorIndex_14 ?_
        refine lv_iload_n hx hb dX0_errorIndex_17 rfl (lv_at hl 1 rfl) ?_
        refine cRi (As := [.int (nI k)]) (rest := [.int (sI (sg B k))]) (m_X3_get l Γ (q 1) (q 2) 60 k g (by decide) (by omega)) S k_X3_get gX0_errorIndex_X3_get rfl ⟨Nat.le_of_ble_eq_true rfl, Nat.le_of_ble_eq_true rfl⟩ hK hP [1, 2] rfl 0 (ci := 3) rfl rfl rfl rfl hl.1 (Nat.le_of_ble_eq_true rfl) rfl dX0_errorIndex_18 ⟨Nat.le_of_ble_eq_true rfl, Nat.le_of_ble_eq_true rfl⟩ (fun r hr => ?_)
        subst hr
        have hbg := hB k (by omega)
        refine asi (z := nI (B k)) hbg.1 ?_
        refine cSi (As := [.int (sI (sg B k)), .int (nI (B k))]) (rest := []) (m_X0_stageAfter l (sg B k) (B k) (by have := sg_le B k; omega) (by omega)) S k_X0_stageAfter gX0_errorIndex_X0_stageAfter ⟨Nat.le_of_ble_eq_true rfl, Nat.le_of_ble_eq_true rfl⟩ rfl hl.1 (Nat.le_of_ble_eq_true rfl) rfl dX0_errorIndex_21 ⟨Nat.le_of_ble_eq_true rfl, Nat.le_of_ble_eq_true rfl⟩ (fun r hr => ?_)
        subst hr
        refine asi (z := sI (sg B (k + 1))) rfl ?_
        refine lv_istore_n (lv' := [(1, .int (sI (sg B (k + 1)))), (0, .ref (q 0)), (2, .int (nI k))]) hx hb dX0_errorIndex_24 rfl hl (by decide) rfl (fun ls hl => ?_)
        refine lv_iload_n hx hb dX0_errorIndex_25 rfl (lv_at hl 0 rfl) ?_
        refine lv_iconst (v := (-1)) hx hb dX0_errorIndex_26 (by decide) ?_
        refine lv_icmp_ne (tgt := 32) hx hb dX0_errorIndex_27 (by decide) (fun c_27 => ?_) (fun c_27 => ?_)
        · have n_27 : ¬ sg B (k + 1) = 8 := fun h => c_27 ((sI_m1 (sg_le B (k + 1))).mpr h)
          refine lv_iinc (v := nI (k + 1)) (lv' := [(2, .int (nI (k + 1))), (1, .int (sI (sg B (k + 1)))), (0, .ref (q 0))]) hx hb dX0_errorIndex_32 hl (k := 2) rfl (nI_add _ _) (by decide) rfl (fun ls hl => ?_)
          refine lv_goto (tgt := 4) hx hb dX0_errorIndex_35 (by decide) ?_
          exact ih_4 (k + 1) (sI (sg B (k + 1))) (by omega) (by omega) rfl n_27 (her.trans (er_f (by omega) n_27)) ls (lv_sub hl [2, 0, 1] rfl)
        · have n_27 := (sI_m1 (sg_le B (k + 1))).mp c_27
          refine lv_iload_n hx hb dX0_errorIndex_30 rfl (lv_at hl 2 rfl) ?_
          exact W.iret (v := nI k) hx hb hrt (fun t9 ht9 hW9 => ⟨_, rfl, by rw [her, er_t (by omega) n_27], ht9⟩) (fun _ h9 => nomatch h9) dX0_errorIndex_31 hlk
  refine lv_iconst (v := nI 0) hx hb dX0_errorIndex_0 (by decide) ?_
  refine lv_istore_n (lv' := [(1, .int (nI 0)), (0, .ref (q 0))]) hx hb dX0_errorIndex_1 rfl hl (by decide) rfl (fun ls hl => ?_)
  refine lv_iconst (v := nI 0) hx hb dX0_errorIndex_2 (by decide) ?_
  refine lv_istore_n (lv' := [(2, .int (nI 0)), (1, .int (nI 0)), (0, .ref (q 0))]) hx hb dX0_errorIndex_3 rfl hl (by decide) rfl (fun ls hl => ?_)
  exact L_4 (n + 1) 0 (nI 0) (by omega) (by omega) rfl (show ¬ 0 = 8 by decide) rfl ls (lv_sub hl [2, 0, 1] rfl)

abbrev rm_X0_isComplete : Room := { frames := 2, cells := 0, slots := 0, locals := 42 }
theorem k_X0_isComplete : Cal yX0_isComplete wsX0_isComplete rm_X0_isComplete cX0_isComplete 3 (some .boolean) 0 0 0 := ⟨⟨_, rfl⟩, rfl, rfl, by decide +kernel⟩
set_option maxHeartbeats 4000000 in
set_option maxRecDepth 100000 in
theorem m_X0_isComplete (l : Launch) (Γ : Gm) (q : Nat → Nat) (g : Nat → Int32) (B : Nat → Nat) (n : Nat) (hn : n ≤ 60) (hB : ∀ i, i < n → g i = nI (B i) ∧ B i < 127) (z : Int32) (hz : z = nI n)  : MRi l yX0_isComplete wsX0_isComplete rm_X0_isComplete Γ [(q 0, .inr (0, [.ref (q 1), .int z])), (q 1, .inr (3, [.ref (q 2)])), (q 2, .inl (Γ.2.1, 60, .inl g))] [.ref (q 0)] (fun r => r = bI (cplQ B n)) := by
  refine mR (cc := cX0_isComplete) (maxL := 3) (ret := (some .boolean)) (own := RX0) (by decide) rfl rfl (Nat.le_of_ble_eq_true rfl) ?_
  intro p e s m args below meth c S hrt hlk hK hP ls hl
  obtain ⟨hx, hb, hml, hown, hts⟩ := id S
  have hl : lv_has ls 3 [(0, .ref (q 0))] := hl
  have hP : gP Γ [(q 0, .inr (0, [.ref (q 1), .int z])), (q 1, .inr (3, [.ref (q 2)])), (q 2, .inl (Γ.2.1, 60, .inl g))] s.heap := hP
  have L_4 : ∀ (fuel : Nat), ∀ (k : Nat) (x1 : Int32) (hk : k ≤ n) (hfk : n - k < fuel) (e_x1 : x1 = sI (sg B k)), ∀ ls : Array Slot, lv_has ls 3 [(0, .ref (q 0)), (2, .int (nI k)), (1, .int x1)] → W p l e rm_X0_isComplete s m args below meth c s.heap [] 0 0 (MQ below (vp_Si (fun r => r = bI (cplQ B n))) args s 0 0 (fun _ => False)) (F0 m 4 ls []) := by
    intro fuel
    induction fuel with
    | zero => intro k x1 hk hfk e_x1; exact absurd hfk (by omega)
    | succ fuel ih_4 =>
      intro k x1 hk hfk e_x1 ls hl
      subst e_x1
      refine lv_iload_n hx hb dX0_isComplete_4 rfl (lv_at hl 1 rfl) ?_
      refine lv_aload_n hx hb dX0_isComplete_5 rfl (lv_at hl 0 rfl) ?_
      refine va_get (D := Γ.1) (ci := 0) (v := .int z) (C := RX0) (T := TX0) (N := 2) hx hb hts (by decide +kernel) hown hK hP 0 rfl rfl 1 (by decide) (hts (.fieldLink RX0 20 "RowVeils$Buffer" "length" "I") (by decide +kernel)) (fun _ h9 => h9) rfl dX0_isComplete_6 ?_
      refine asi (z := nI n) hz ?_
      refine lv_icmp_ge (tgt := 36) hx hb dX0_isComplete_9 (by decide) (fun c_9 => ?_) (fun c_9 => ?_)
      · have n_9 := (nI_leI (a := n) (b := k) (by omega) (by omega)).mp c_9
        refine lv_iload_n hx hb dX0_isComplete_36 rfl (lv_at hl 2 rfl) ?_
        refine lv_iconst (v := nI 3) hx hb dX0_isComplete_37 (by decide) ?_
        refine lv_icmp_lt (tgt := 45) hx hb dX0_isComplete_38 (by decide) (fun c_38 => ?_) (fun c_38 => ?_)
        · have n_38 := (sI_lt3 (sg_le B k)).mp c_38
          refine lv_iconst (v := nI 0) hx hb dX0_isComplete_45 (by decide) ?_
          exact W.zret (v := nI 0) hx hb hrt (z0) (fun t9 ht9 hW9 => ⟨_, rfl, bf (Bool.eq_false_iff.mpr (fun h => by have h := cpl_iff.mp h; first | (have h9 := sg_bad n_14 (show k ≤ n by omega); omega) | (rw [show n = k from by omega] at h; omega))), ht9⟩) (fun _ h9 => nomatch h9) dX0_isComplete_46 hlk
        · have n_38 : ¬ (sg B k < 3 ∨ sg B k = 8) := fun h => c_38 ((sI_lt3 (sg_le B k)).mpr h)
          refine lv_iconst (v := nI 1) hx hb dX0_isComplete_41 (by decide) ?_
          refine lv_goto (tgt := 46) hx hb dX0_isComplete_42 (by decide) ?_
          exact W.zret (v := nI 1) hx hb hrt (z1) (fun t9 ht9 hW9 => ⟨_, rfl, bt (cpl_iff.mpr (by have := sg_le B k; first | (exfalso; omega) | (rw [show n = k from by omega]; omega))), ht9⟩) (fun _ h9 => nomatch h9) dX0_isComplete_46 hlk
      · have n_9 := (not_congr (nI_leI (a := n) (b := k) (by omega) (by omega))).mp c_9
        refine lv_iload_n hx hb dX0_isComplete_12 rfl (lv_at hl 2 rfl) ?_
        refine lv_iconst (v := (-1)) hx hb dX0_isComplete_13 (by decide) ?_
        refine lv_icmp_eq (tgt := 36) hx hb dX0_isComplete_14 (by decide) (fun c_14 => ?_) (fun c_14 => ?_)
        · have n_14 := (sI_m1 (sg_le B k)).mp c_14
          refine lv_iload_n hx hb dX0_isComplete_36 rfl (lv_at hl 2 rfl) ?_
          refine lv_iconst (v := nI 3) hx hb dX0_isComplete_37 (by decide) ?_
          refine lv_icmp_lt (tgt := 45) hx hb dX0_isComplete_38 (by decide) (fun c_38 => ?_) (fun c_38 => ?_)
          · have n_38 := (sI_lt3 (sg_le B k)).mp c_38
            refine lv_iconst (v := nI 0) hx hb dX0_isComplete_45 (by decide) ?_
            exact W.zret (v := nI 0) hx hb hrt (z0) (fun t9 ht9 hW9 => ⟨_, rfl, bf (Bool.eq_false_iff.mpr (fun h => by have h := cpl_iff.mp h; first | (have h9 := sg_bad n_14 (show k ≤ n by omega); omega) | (rw [show n = k from by omega] at h; omega))), ht9⟩) (fun _ h9 => nomatch h9) dX0_isComplete_46 hlk
          · have n_38 : ¬ (sg B k < 3 ∨ sg B k = 8) := fun h => c_38 ((sI_lt3 (sg_le B k)).mpr h)
            refine lv_iconst (v := nI 1) hx hb dX0_isComplete_41 (by decide) ?_
            refine lv_goto (tgt := 46) hx hb dX0_isComplete_42 (by decide) ?_
            exact W.zret (v := nI 1) hx hb hrt (z1) (fun t9 ht9 hW9 => ⟨_, rfl, bt (cpl_iff.mpr (by have := sg_le B k; first | (exfalso; omega) | (rw [show n = k from by omega]; omega))), ht9⟩) (fun _ h9 => nomatch h9) dX0_isComplete_46 hlk
        · have hs8 : ¬ sg B k = 8 := fun h => c_14 ((sI_m1 (sg_le B k)).mpr h)
          refine lv_iload_n hx hb dX0_isComplete_17 rfl (lv_at hl 2 rfl) ?_
          refine lv_aload_n hx hb dX0_isComplete_18 rfl (lv_at hl 0 rfl) ?_
          refine va_get (D := Γ.1) (ci := 0) (v := .ref (q 1)) (C := RX0) (T := TX0) (N := 2) hx hb hts (by decide +kernel) hown hK hP 0 rfl rfl 0 (by decide) (hts (.fieldLink RX0 14 "RowVeils$Buffer" "codes" "LRowVeils$Numbers;") (by decide +kernel)) (fun _ h9 => h9) rfl dX0_isComplete_19 ?_
          refine lv_iload_n hx hb dX0_isComplete_22 rfl (lv_at hl 1 rfl) ?_
          refine cRi (As := [.int (nI k)]) (rest := [.int (sI (sg B k))]) (m_X3_get l Γ (q 1) (q 2) 60 k g (by decide) (by omega)) S k_X3_get gX0_isComplete_X3_get rfl ⟨Nat.le_of_ble_eq_true rfl, Nat.le_of_ble_eq_true rfl⟩ hK hP [1, 2] rfl 0 (ci := 3) rfl rfl rfl rfl hl.1 (Nat.le_of_ble_eq_true rfl) rfl dX0_isComplete_23 ⟨Nat.le_of_ble_eq_true rfl, Nat.le_of_ble_eq_true rfl⟩ (fun r hr => ?_)
          subst hr
          have hbg := hB k (by omega)
          refine asi (z := nI (B k)) hbg.1 ?_
          refine cSi (As := [.int (sI (sg B k)), .int (nI (B k))]) (rest := []) (m_X0_stageAfter l (sg B k) (B k) (by have := sg_le B k; omega) (by omega)) S k_X0_stageAfter gX0_isComplete_X0_stageAfter ⟨Nat.le_of_ble_eq_true rfl, Nat.le_of_ble_eq_true rfl⟩ rfl hl.1 (Nat.le_of_ble_eq_true rfl) rfl dX0_isComplete_26 ⟨Nat.le_of_ble_eq_true rfl, Nat.le_of_ble_eq_true rfl⟩ (fun r hr => ?_)
          subst hr
          refine asi (z := sI (sg B (k + 1))) rfl ?_
          refine lv_istore_n (lv' := [(1, .int (sI (sg B (k + 1)))), (0, .ref (q 0)), (2, .int (nI k))]) hx hb dX0_isComplete_29 rfl hl (by decide) rfl (fun ls hl => ?_)
          refine lv_iinc (v := nI (k + 1)) (lv' := [(2, .int (nI (k + 1))), (1, .int (sI (sg B (k + 1)))), (0, .ref (q 0))]) hx hb dX0_isComplete_30 hl (k := 2) rfl (nI_add _ _) (by decide) rfl (fun ls hl => ?_)
          refine lv_goto (tgt := 4) hx hb dX0_isComplete_33 (by decide) ?_
          exact ih_4 (k + 1) (sI (sg B (k + 1))) (by omega) (by omega) rfl ls (lv_sub hl [2, 0, 1] rfl)
  refine lv_iconst (v := nI 0) hx hb dX0_isComplete_0 (by decide) ?_
  refine lv_istore_n (lv' := [(1, .int (nI 0)), (0, .ref (q 0))]) hx hb dX0_isComplete_1 rfl hl (by decide) rfl (fun ls hl => ?_)
  refine lv_iconst (v := nI 0) hx hb dX0_isComplete_2 (by decide) ?_
  refine lv_istore_n (lv' := [(2, .int (nI 0)), (1, .int (nI 0)), (0, .ref (q 0))]) hx hb dX0_isComplete_3 rfl hl (by decide) rfl (fun ls hl => ?_)
  exact L_4 (n + 1) 0 (nI 0) (by omega) (by omega) rfl ls (lv_sub hl [2, 0, 1] rfl)

abbrev rm_X0_readPart : Room := { frames := 2, cells := 0, slots := 0, locals := 46 }
theorem k_X0_readPart : Cal yX0_readPart wsX0_readPart rm_X0_readPart cX0_readPart 8 none 3 0 0 := ⟨⟨_, rfl⟩, rfl, rfl, by decide +kernel⟩
set_option maxHeartbeats 4000000 in
set_option maxRecDepth 100000 in
theorem m_X0_readPart (l : Launch) (Γ : Gm) (sz : Nat) (q : Nat → Nat) (g : Nat → Int32) (B : Nat → Nat) (n : Nat) (hn : n ≤ 60) (hB : ∀ i, i < n → g i = nI (B i) ∧ B i < 127) (z : Int32) (hz : z = nI n) (a : Nat → Nat) (f : Nat → Nat → Int32) (k0 : Nat) (hk0 : k0 < 16) (z2 : Int32) (hz2 : z2 = nI k0) (st en : Nat) (hse : st + 3 ≤ en) (hen : en ≤ n) (ho1 : 48 ≤ B st) (ho3 : plN (B (st + 1)) < 4) (hgd : ∀ i, st + 2 ≤ i → i < en → B i = 33 ∨ digQ (B i) = true) : MWv (S := Unit) l yX0_readPart wsX0_readPart rm_X0_readPart Γ sz [(q 0, .inr (0, [.ref (q 1), .int z])), (q 1, .inr (3, [.ref (q 2)])), (q 2, .inl (Γ.2.1, 60, .inl g)), (a 0, .inr (5, [.ref (a 1), .ref (a 3), .ref (a 5), .ref (a 7), .int z2])), (a 1, .inr (3, [.ref (a 2)])), (a 2, .inl (Γ.2.1, 16, .inl (f 0))), (a 3, .inr (3, [.ref (a 4)])), (a 4, .inl (Γ.2.1, 16, .inl (f 1))), (a 5, .inr (3, [.ref (a 6)])), (a 6, .inl (Γ.2.1, 16, .inl (f 2))), (a 7, .inr (3, [.ref (a 8)])), (a 8, .inl (Γ.2.1, 16, .inl (f 3)))] [.ref (q 0), .ref (a 0), .int (nI st), .int (nI en)] (fun u => True) (fun u => [(q 0, .inr (0, [.ref (q 1), .int z])), (q 1, .inr (3, [.ref (q 2)])), (q 2, .inl (Γ.2.1, 60, .inl g)), (a 0, .inr (5, [.ref (a 1), .ref (a 3), .ref (a 5), .ref (a 7), .int (nI (k0 + 1))])), (a 1, .inr (3, [.ref (a 2)])), (a 2, .inl (Γ.2.1, 16, .inl (upd (f 0) k0 (nI (prtV B st en 0))))), (a 3, .inr (3, [.ref (a 4)])), (a 4, .inl (Γ.2.1, 16, .inl (upd (f 1) k0 (nI (prtV B st en 1))))), (a 5, .inr (3, [.ref (a 6)])), (a 6, .inl (Γ.2.1, 16, .inl (upd (f 2) k0 (nI (prtV B st en 2))))), (a 7, .inr (3, [.ref (a 8)])), (a 8, .inl (Γ.2.1, 16, .inl (upd (f 3) k0 (nI (prtV B st en 3)))))]) 0 0 := by
  refine mW (cc := cX0_readPart) (maxL := 8) (ret := none) (own := RX0) (by decide) rfl rfl (Nat.le_of_ble_eq_true rfl) ?_
  intro p e s m args below meth c S hrt hlk hin hsz hK hP hD hA hS ls hl
  subst hsz
  generalize hAe : va_A ([(q 0, .inr (0, [.ref (q 1), .int z])), (q 1, .inr (3, [.ref (q 2)])), (q 2, .inl (Γ.2.1, 60, .inl g)), (a 0, .inr (5, [.ref (a 1), .ref (a 3), .ref (a 5), .ref (a 7), .int z2])), (a 1, .inr (3, [.ref (a 2)])), (a 2, .inl (Γ.2.1, 16, .inl (f 0))), (a 3, .inr (3, [.ref (a 4)])), (a 4, .inl (Γ.2.1, 16, .inl (f 1))), (a 5, .inr (3, [.ref (a 6)])), (a 6, .inl (Γ.2.1, 16, .inl (f 2))), (a 7, .inr (3, [.ref (a 8)])), (a 8, .inl (Γ.2.1, 16, .inl (f 3)))]) s.heap.size = A at hD hA hS ⊢
  obtain ⟨hx, hb, hml, hown, hts⟩ := id S
  have hl : lv_has ls 8 [(0, .ref (q 0)), (1, .ref (a 0)), (2, .int (nI st)), (3, .int (nI en))] := hl
  have L_11 : ∀ (fuel : Nat), ∀ (k : Nat) (x4 : Int32) (x5 : Int32) (hk : st + 2 + k ≤ en) (hfk : en - (st + 2) - k < fuel) (e_x4 : x4 = nI (vlu B (st + 2) k)) (e_x5 : x5 = nI (scu B (st + 2) k)), ∀ (H : Heap) (locs : List Loc), gP Γ [(q 0, .inr (0, [.ref (q 1), .int z])), (q 1, .inr (3, [.ref (q 2)])), (q 2, .inl (Γ.2.1, 60, .inl g)), (a 0, .inr (5, [.ref (a 1), .ref (a 3), .ref (a 5), .ref (a 7), .int z2])), (a 1, .inr (3, [.ref (a 2)])), (a 2, .inl (Γ.2.1, 16, .inl (f 0))), (a 3, .inr (3, [.ref (a 4)])), (a 4, .inl (Γ.2.1, 16, .inl (f 1))), (a 5, .inr (3, [.ref (a 6)])), (a 6, .inl (Γ.2.1, 16, .inl (f 2))), (a 7, .inr (3, [.ref (a 8)])), (a 8, .inl (Γ.2.1, 16, .inl (f 3)))] H → va_D A [(q 0, .inr (0, [.ref (q 1), .int z])), (q 1, .inr (3, [.ref (q 2)])), (q 2, .inl (Γ.2.1, 60, .inl g)), (a 0, .inr (5, [.ref (a 1), .ref (a 3), .ref (a 5), .ref (a 7), .int z2])), (a 1, .inr (3, [.ref (a 2)])), (a 2, .inl (Γ.2.1, 16, .inl (f 0))), (a 3, .inr (3, [.ref (a 4)])), (a 4, .inl (Γ.2.1, 16, .inl (f 1))), (a 5, .inr (3, [.ref (a 6)])), (a 6, .inl (Γ.2.1, 16, .inl (f 2))), (a 7, .inr (3, [.ref (a 8)])), (a 8, .inl (Γ.2.1, 16, .inl (f 3)))] → va_S A s.heap H locs → ∀ ls : Array Slot, lv_has ls 8 [(0, .ref (q 0)), (1, .ref (a 0)), (2, .int (nI st)), (3, .int (nI en)), (4, .int x4), (5, .int x5), (6, .int (nI (st + 2 + k)))] → W p l e rm_X0_readPart s m args below meth c H locs 0 0 (MQ below (va_Qv (S := Unit) (fun u => True) (fun u t9 => wd Γ A ([(q 0, .inr (0, [.ref (q 1), .int z])), (q 1, .inr (3, [.ref (q 2)])), (q 2, .inl (Γ.2.1, 60, .inl g)), (a 0, .inr (5, [.ref (a 1), .ref (a 3), .ref (a 5), .ref (a 7), .int (nI (k0 + 1))])), (a 1, .inr (3, [.ref (a 2)])), (a 2, .inl (Γ.2.1, 16, .inl (upd (f 0) k0 (nI (prtV B st en 0))))), (a 3, .inr (3, [.ref (a 4)])), (a 4, .inl (Γ.2.1, 16, .inl (upd (f 1) k0 (nI (prtV B st en 1))))), (a 5, .inr (3, [.ref (a 6)])), (a 6, .inl (Γ.2.1, 16, .inl (upd (f 2) k0 (nI (prtV B st en 2))))), (a 7, .inr (3, [.ref (a 8)])), (a 8, .inl (Γ.2.1, 16, .inl (upd (f 3) k0 (nI (prtV B st en 3)))))]) t9) A) args s 0 0 A) (F0 m 11 ls []) := by
    intro fuel
    induction fuel with
    | zero => intro k x4 x5 hk hfk e_x4 e_x5; exact absurd hfk (by omega)
    | succ fuel ih_11 =>
      intro k x4 x5 hk hfk e_x4 e_x5 H locs hP hD hS ls hl
      subst e_x4 e_x5
      refine lv_iload hx hb dX0_readPart_11 (lv_at hl 6 rfl) ?_
      refine lv_iload_n hx hb dX0_readPart_13 rfl (lv_at hl 3 rfl) ?_
      refine lv_icmp_ge (tgt := 60) hx hb dX0_readPart_14 (by decide) (fun c_14 => ?_) (fun c_14 => ?_)
      · have n_14 := (nI_leI (a := en) (b := (st + 2 + k)) (by omega) (by omega)).mp c_14
        have hke : k = (en - (st + 2)) := by omega
        subst hke
        refine lv_aload_n hx hb dX0_readPart_60 rfl (lv_at hl 1 rfl) ?_
        refine lv_aload_n hx hb dX0_readPart_61 rfl (lv_at hl 0 rfl) ?_
        refine va_get (D := Γ.1) (ci := 0) (v := .ref (q 1)) (C := RX0) (T := TX0) (N := 2) hx hb hts (by decide +kernel) hown hK hP 0 rfl rfl 0 (by decide) (hts (.fieldLink RX0 14 "RowVeils$Buffer" "codes" "LRowVeils$Numbers;") (by decide +kernel)) (fun _ h9 => h9) rfl dX0_readPart_62 ?_
        refine lv_iload_n hx hb dX0_readPart_65 rfl (lv_at hl 2 rfl) ?_
        refine cRi (As := [.int (nI st)]) (rest := [.ref (a 0)]) (m_X3_get l Γ (q 1) (q 2) 60 st g (by decide) (by omega)) S k_X3_get gX0_readPart_X3_get rfl ⟨Nat.le_of_ble_eq_true rfl, Nat.le_of_ble_eq_true rfl⟩ hK hP [1, 2] rfl 0 (ci := 3) rfl rfl rfl rfl hl.1 (Nat.le_of_ble_eq_true rfl) rfl dX0_readPart_66 ⟨Nat.le_of_ble_eq_true rfl, Nat.le_of_ble_eq_true rfl⟩ (fun r hr => ?_)
        subst hr
        have hbg := hB st (by omega)
        refine asi (z := nI (B st)) hbg.1 ?_
        refine lv_bipush (v := nI 48) hx hb dX0_readPart_69 (by decide) ?_
        refine lv_isub hx hb dX0_readPart_71 ?_
        refine asi (z := nI (B st - 48)) (pk_sub ho1) ?_
        refine lv_aload_n hx hb dX0_readPart_72 rfl (lv_at hl 0 rfl) ?_
        refine va_get (D := Γ.1) (ci := 0) (v := .ref (q 1)) (C := RX0) (T := TX0) (N := 2) hx hb hts (by decide +kernel) hown hK hP 0 rfl rfl 0 (by decide) (hts (.fieldLink RX0 14 "RowVeils$Buffer" "codes" "LRowVeils$Numbers;") (by decide +kernel)) (fun _ h9 => h9) rfl dX0_readPart_73 ?_
        refine lv_iload_n hx hb dX0_readPart_76 rfl (lv_at hl 2 rfl) ?_
        refine lv_iconst (v := nI 1) hx hb dX0_readPart_77 (by decide) ?_
        refine lv_iadd hx hb dX0_readPart_78 ?_
        refine asi (z := nI (st + 1)) (nI_add _ _) ?_
        refine cRi (As := [.int (nI (st + 1))]) (rest := [.int (nI (B st - 48)), .ref (a 0)]) (m_X3_get l Γ (q 1) (q 2) 60 (st + 1) g (by decide) (by omega)) S k_X3_get gX0_readPart_X3_get rfl ⟨Nat.le_of_ble_eq_true rfl, Nat.le_of_ble_eq_true rfl⟩ hK hP [1, 2] rfl 0 (ci := 3) rfl rfl rfl rfl hl.1 (Nat.le_of_ble_eq_true rfl) rfl dX0_readPart_79 ⟨Nat.le_of_ble_eq_true rfl, Nat.le_of_ble_eq_true rfl⟩ (fun r hr => ?_)
        subst hr
        have hbg := hB (st + 1) (by omega)
        refine asi (z := nI (B (st + 1))) hbg.1 ?_
        refine cSi (As := [.int (nI (B (st + 1)))]) (rest := [.int (nI (B st - 48)), .ref (a 0)]) (m_X0_placeOf l (B (st + 1)) (by omega)) S k_X0_placeOf gX0_readPart_X0_placeOf ⟨Nat.le_of_ble_eq_true rfl, Nat.le_of_ble_eq_true rfl⟩ rfl hl.1 (Nat.le_of_ble_eq_true rfl) rfl dX0_readPart_82 ⟨Nat.le_of_ble_eq_true rfl, Nat.le_of_ble_eq_true rfl⟩ (fun r hr => ?_)
        subst hr
        refine asi (z := nI (plN (B (st + 1)))) (plI_n ho3) ?_
        refine lv_iload hx hb dX0_readPart_85 (lv_at hl 4 rfl) ?_
        refine lv_iload hx hb dX0_readPart_87 (lv_at hl 5 rfl) ?_
        refine cWv (As := [.int (nI (B st - 48)), .int (nI (plN (B (st + 1)))), .int (nI (vlu B (st + 2) (en - (st + 2)))), .int (nI (scu B (st + 2) (en - (st + 2))))]) (rest := []) (wr := [(q 0, .inr (0, [.ref (q 1), .int z])), (q 1, .inr (3, [.ref (q 2)])), (q 2, .inl (Γ.2.1, 60, .inl g))]) (m_X5_place l Γ _ a f k0 (by omega) z2 hz2 (nI (B st - 48)) (nI (plN (B (st + 1)))) (nI (vlu B (st + 2) (en - (st + 2)))) (nI (scu B (st + 2) (en - (st + 2))))) S k_X5_place gX0_readPart_X5_place rfl ⟨Nat.le_of_ble_eq_true rfl, Nat.le_of_ble_eq_true rfl⟩ hK hP hD hS hA [3, 4, 5, 6, 7, 8, 9, 10, 11] [0, 1, 2] rfl rfl (by decide) (by decide) (by decide) 0 (ci := 5) rfl rfl rfl rfl hl.1 (Nat.le_of_ble_eq_true rfl) rfl dX0_readPart_89 ⟨Nat.le_of_ble_eq_true rfl, Nat.le_of_ble_eq_true rfl⟩ (fun u H locs hr hP hD hS => ?_)
        have hP : gP Γ [(q 0, .inr (0, [.ref (q 1), .int z])), (q 1, .inr (3, [.ref (q 2)])), (q 2, .inl (Γ.2.1, 60, .inl g)), (a 0, .inr (5, [.ref (a 1), .ref (a 3), .ref (a 5), .ref (a 7), .int (nI (k0 + 1))])), (a 1, .inr (3, [.ref (a 2)])), (a 2, .inl (Γ.2.1, 16, .inl (upd (f 0) k0 (nI (B st - 48))))), (a 3, .inr (3, [.ref (a 4)])), (a 4, .inl (Γ.2.1, 16, .inl (upd (f 1) k0 (nI (plN (B (st + 1))))))), (a 5, .inr (3, [.ref (a 6)])), (a 6, .inl (Γ.2.1, 16, .inl (upd (f 2) k0 (nI (vlu B (st + 2) (en - (st + 2))))))), (a 7, .inr (3, [.ref (a 8)])), (a 8, .inl (Γ.2.1, 16, .inl (upd (f 3) k0 (nI (scu B (st + 2) (en - (st + 2)))))))] H := hP
        have hD : va_D A [(q 0, .inr (0, [.ref (q 1), .int z])), (q 1, .inr (3, [.ref (q 2)])), (q 2, .inl (Γ.2.1, 60, .inl g)), (a 0, .inr (5, [.ref (a 1), .ref (a 3), .ref (a 5), .ref (a 7), .int (nI (k0 + 1))])), (a 1, .inr (3, [.ref (a 2)])), (a 2, .inl (Γ.2.1, 16, .inl (upd (f 0) k0 (nI (B st - 48))))), (a 3, .inr (3, [.ref (a 4)])), (a 4, .inl (Γ.2.1, 16, .inl (upd (f 1) k0 (nI (plN (B (st + 1))))))), (a 5, .inr (3, [.ref (a 6)])), (a 6, .inl (Γ.2.1, 16, .inl (upd (f 2) k0 (nI (vlu B (st + 2) (en - (st + 2))))))), (a 7, .inr (3, [.ref (a 8)])), (a 8, .inl (Γ.2.1, 16, .inl (upd (f 3) k0 (nI (scu B (st + 2) (en - (st + 2)))))))] := hD
        exact W.vret hx hb hrt (fun t9 ht9 hW9 => ⟨⟨(), rfl, trivial, wd_end hK hP hD [0, 1, 2, 3, 4, 5, 6, 7, 8, 9, 10, 11] (by decide) rfl t9 ht9 hW9⟩, hS.F ht9⟩) hS.2.2 dX0_readPart_92 hlk
      · have n_14 := (not_congr (nI_leI (a := en) (b := (st + 2 + k)) (by omega) (by omega))).mp c_14
        refine lv_aload_n hx hb dX0_readPart_17 rfl (lv_at hl 0 rfl) ?_
        refine va_get (D := Γ.1) (ci := 0) (v := .ref (q 1)) (C := RX0) (T := TX0) (N := 2) hx hb hts (by decide +kernel) hown hK hP 0 rfl rfl 0 (by decide) (hts (.fieldLink RX0 14 "RowVeils$Buffer" "codes" "LRowVeils$Numbers;") (by decide +kernel)) (fun _ h9 => h9) rfl dX0_readPart_18 ?_
        refine lv_iload hx hb dX0_readPart_21 (lv_at hl 6 rfl) ?_
        refine cRi (As := [.int (nI (st + 2 + k))]) (rest := []) (m_X3_get l Γ (q 1) (q 2) 60 (st + 2 + k) g (by decide) (by omega)) S k_X3_get gX0_readPart_X3_get rfl ⟨Nat.le_of_ble_eq_true rfl, Nat.le_of_ble_eq_true rfl⟩ hK hP [1, 2] rfl 0 (ci := 3) rfl rfl rfl rfl hl.1 (Nat.le_of_ble_eq_true rfl) rfl dX0_readPart_23 ⟨Nat.le_of_ble_eq_true rfl, Nat.le_of_ble_eq_true rfl⟩ (fun r hr => ?_)
        subst hr
        have hbg := hB (st + 2 + k) (by omega)
        refine asi (z := nI (B (st + 2 + k))) hbg.1 ?_
        refine lv_istore (lv' := [(7, .int (nI (B (st + 2 + k)))), (0, .ref (q 0)), (1, .ref (a 0)), (2, .int (nI st)), (3, .int (nI en)), (4, .int (nI (vlu B (st + 2) k))), (5, .int (nI (scu B (st + 2) k))), (6, .int (nI (st + 2 + k)))]) hx hb dX0_readPart_26 hl (by decide) rfl (fun ls hl => ?_)
        refine lv_iload hx hb dX0_readPart_28 (lv_at hl 0 rfl) ?_
        refine lv_bipush (v := nI 33) hx hb dX0_readPart_30 (by decide) ?_
        refine lv_icmp_ne (tgt := 41) hx hb dX0_readPart_32 (by decide) (fun c_32 => ?_) (fun c_32 => ?_)
        · have n_32 := (not_congr (nI_eq (a := (B (st + 2 + k))) (b := 33) (by omega) (by omega))).mp c_32
          refine lv_iload hx hb dX0_readPart_41 (lv_at hl 5 rfl) ?_
          refine lv_bipush (v := nI 10) hx hb dX0_readPart_43 (by decide) ?_
          refine lv_imul hx hb dX0_readPart_45 ?_
          refine asi (z := nI ((vlu B (st + 2) k) * 10)) (pk_mul _ _) ?_
          refine lv_iload hx hb dX0_readPart_46 (lv_at hl 0 rfl) ?_
          have hdk : 48 ≤ B (st + 2 + k) := by rcases hgd (st + 2 + k) (by omega) (by omega) with h9 | h9; exact absurd h9 n_32; exact (digQ_t.mp h9).1
          refine lv_bipush (v := nI 48) hx hb dX0_readPart_48 (by decide) ?_
          refine lv_isub hx hb dX0_readPart_50 ?_
          refine asi (z := nI (B (st + 2 + k) - 48)) (pk_sub hdk) ?_
          refine lv_iadd hx hb dX0_readPart_51 ?_
          refine asi (z := nI (((vlu B (st + 2) k) * 10) + (B (st + 2 + k) - 48))) (nI_add _ _) ?_
          refine lv_istore (lv' := [(4, .int (nI (((vlu B (st + 2) k) * 10) + (B (st + 2 + k) - 48)))), (7, .int (nI (B (st + 2 + k)))), (0, .ref (q 0)), (1, .ref (a 0)), (2, .int (nI st)), (3, .int (nI en)), (5, .int (nI (scu B (st + 2) k))), (6, .int (nI (st + 2 + k)))]) hx hb dX0_readPart_52 hl (by decide) rfl (fun ls hl => ?_)
          refine lv_iinc (v := nI ((st + 2 + k) + 1)) (lv' := [(6, .int (nI ((st + 2 + k) + 1))), (4, .int (nI (((vlu B (st + 2) k) * 10) + (B (st + 2 + k) - 48)))), (7, .int (nI (B (st + 2 + k)))), (0, .ref (q 0)), (1, .ref (a 0)), (2, .int (nI st)), (3, .int (nI en)), (5, .int (nI (scu B (st + 2) k)))]) hx hb dX0_readPart_54 hl (k := 7) rfl (nI_add _ _) (by decide) rfl (fun ls hl => ?_)
          refine lv_goto (tgt := 11) hx hb dX0_readPart_57 (by decide) ?_
          exact ih_11 (k + 1) (nI (((vlu B (st + 2) k) * 10) + (B (st + 2 + k) - 48))) (nI (scu B (st + 2) k)) (by omega) (by omega) (by first | rw [vl_t n_32] | rw [vl_f n_32]) (by first | rw [sc_t n_32] | rw [sc_f n_32]) _ _ hP hD hS ls (lv_sub hl [3, 4, 5, 6, 1, 7, 0] rfl)
        · have n_32 := (nI_eq (a := (B (st + 2 + k))) (b := 33) (by omega) (by omega)).mp c_32
          refine lv_iinc (v := nI ((scu B (st + 2) k) + 1)) (lv' := [(5, .int (nI ((scu B (st + 2) k) + 1))), (7, .int (nI (B (st + 2 + k)))), (0, .ref (q 0)), (1, .ref (a 0)), (2, .int (nI st)), (3, .int (nI en)), (4, .int (nI (vlu B (st + 2) k))), (6, .int (nI (st + 2 + k)))]) hx hb dX0_readPart_35 hl (k := 6) rfl (nI_add _ _) (by decide) rfl (fun ls hl => ?_)
          refine lv_goto (tgt := 54) hx hb dX0_readPart_38 (by decide) ?_
          refine lv_iinc (v := nI ((st + 2 + k) + 1)) (lv' := [(6, .int (nI ((st + 2 + k) + 1))), (5, .int (nI ((scu B (st + 2) k) + 1))), (7, .int (nI (B (st + 2 + k)))), (0, .ref (q 0)), (1, .ref (a 0)), (2, .int (nI st)), (3, .int (nI en)), (4, .int (nI (vlu B (st + 2) k)))]) hx hb dX0_readPart_54 hl (k := 7) rfl (nI_add _ _) (by decide) rfl (fun ls hl => ?_)
          refine lv_goto (tgt := 11) hx hb dX0_readPart_57 (by decide) ?_
          exact ih_11 (k + 1) (nI (vlu B (st + 2) k)) (nI ((scu B (st + 2) k) + 1)) (by omega) (by omega) (by first | rw [vl_t n_32] | rw [vl_f n_32]) (by first | rw [sc_t n_32] | rw [sc_f n_32]) _ _ hP hD hS ls (lv_sub hl [3, 4, 5, 6, 7, 1, 0] rfl)
  have hH : s.heap = s.heap := rfl
  refine lv_iconst (v := nI 0) hx hb dX0_readPart_0 (by decide) ?_
  refine lv_istore (lv' := [(4, .int (nI 0)), (0, .ref (q 0)), (1, .ref (a 0)), (2, .int (nI st)), (3, .int (nI en))]) hx hb dX0_readPart_1 hl (by decide) rfl (fun ls hl => ?_)
  refine lv_iconst (v := nI 0) hx hb dX0_readPart_3 (by decide) ?_
  refine lv_istore (lv' := [(5, .int (nI 0)), (4, .int (nI 0)), (0, .ref (q 0)), (1, .ref (a 0)), (2, .int (nI st)), (3, .int (nI en))]) hx hb dX0_readPart_4 hl (by decide) rfl (fun ls hl => ?_)
  refine lv_iload_n hx hb dX0_readPart_6 rfl (lv_at hl 4 rfl) ?_
  refine lv_iconst (v := nI 2) hx hb dX0_readPart_7 (by decide) ?_
  refine lv_iadd hx hb dX0_readPart_8 ?_
  refine asi (z := nI (st + 2)) (nI_add _ _) ?_
  refine lv_istore (lv' := [(6, .int (nI (st + 2))), (5, .int (nI 0)), (4, .int (nI 0)), (0, .ref (q 0)), (1, .ref (a 0)), (2, .int (nI st)), (3, .int (nI en))]) hx hb dX0_readPart_9 hl (by decide) rfl (fun ls hl => ?_)
  exact L_11 (en + 1) 0 (nI 0) (nI 0) (by omega) (by omega) rfl rfl _ _ hP hD hS ls (lv_sub hl [3, 4, 5, 6, 2, 1, 0] rfl)

abbrev rm_X0_readInto : Room := { frames := 3, cells := 0, slots := 0, locals := 73 }
theorem k_X0_readInto : Cal yX0_readInto wsX0_readInto rm_X0_readInto cX0_readInto 5 (some .int) 1 0 0 := ⟨⟨_, rfl⟩, rfl, rfl, by decide +kernel⟩
set_option maxHeartbeats 4000000 in
set_option maxRecDepth 100000 in
theorem m_X0_readInto (l : Launch) (Γ : Gm) (sz : Nat) (q : Nat → Nat) (g : Nat → Int32) (B : Nat → Nat) (n : Nat) (hn : n ≤ 60) (hB : ∀ i, i < n → g i = nI (B i) ∧ B i < 127) (z : Int32) (hz : z = nI n) (a : Nat → Nat) (f : Nat → Nat → Int32) (k0 : Nat) (hk0 : k0 ≤ 16) (z2 : Int32) (hz2 : z2 = nI k0) (hw : cplQ B n = true) : MWi (S := Unit) l yX0_readInto wsX0_readInto rm_X0_readInto Γ sz [(q 0, .inr (0, [.ref (q 1), .int z])), (q 1, .inr (3, [.ref (q 2)])), (q 2, .inl (Γ.2.1, 60, .inl g)), (a 0, .inr (5, [.ref (a 1), .ref (a 3), .ref (a 5), .ref (a 7), .int z2])), (a 1, .inr (3, [.ref (a 2)])), (a 2, .inl (Γ.2.1, 16, .inl (f 0))), (a 3, .inr (3, [.ref (a 4)])), (a 4, .inl (Γ.2.1, 16, .inl (f 1))), (a 5, .inr (3, [.ref (a 6)])), (a 6, .inl (Γ.2.1, 16, .inl (f 2))), (a 7, .inr (3, [.ref (a 8)])), (a 8, .inl (Γ.2.1, 16, .inl (f 3)))] [.ref (q 0), .ref (a 0)] (fun r u => r = nI (min (prt B n (n + 1)) (16 - k0))) (fun u => [(q 0, .inr (0, [.ref (q 1), .int z])), (q 1, .inr (3, [.ref (q 2)])), (q 2, .inl (Γ.2.1, 60, .inl g)), (a 0, .inr (5, [.ref (a 1), .ref (a 3), .ref (a 5), .ref (a 7), .int (nI (k0 + (min (prt B n (n + 1)) (16 - k0))))])), (a 1, .inr (3, [.ref (a 2)])), (a 2, .inl (Γ.2.1, 16, .inl (adI (f 0) k0 (tab B n (n + 1)) 0 (min (prt B n (n + 1)) (16 - k0))))), (a 3, .inr (3, [.ref (a 4)])), (a 4, .inl (Γ.2.1, 16, .inl (adI (f 1) k0 (tab B n (n + 1)) 1 (min (prt B n (n + 1)) (16 - k0))))), (a 5, .inr (3, [.ref (a 6)])), (a 6, .inl (Γ.2.1, 16, .inl (adI (f 2) k0 (tab B n (n + 1)) 2 (min (prt B n (n + 1)) (16 - k0))))), (a 7, .inr (3, [.ref (a 8)])), (a 8, .inl (Γ.2.1, 16, .inl (adI (f 3) k0 (tab B n (n + 1)) 3 (min (prt B n (n + 1)) (16 - k0)))))]) 0 0 := by
  refine mW (cc := cX0_readInto) (maxL := 5) (ret := (some .int)) (own := RX0) (by decide) rfl rfl (Nat.le_of_ble_eq_true rfl) ?_
  intro p e s m args below meth c S hrt hlk hin hsz hK hP hD hA hS ls hl
  subst hsz
  generalize hAe : va_A ([(q 0, .inr (0, [.ref (q 1), .int z])), (q 1, .inr (3, [.ref (q 2)])), (q 2, .inl (Γ.2.1, 60, .inl g)), (a 0, .inr (5, [.ref (a 1), .ref (a 3), .ref (a 5), .ref (a 7), .int z2])), (a 1, .inr (3, [.ref (a 2)])), (a 2, .inl (Γ.2.1, 16, .inl (f 0))), (a 3, .inr (3, [.ref (a 4)])), (a 4, .inl (Γ.2.1, 16, .inl (f 1))), (a 5, .inr (3, [.ref (a 6)])), (a 6, .inl (Γ.2.1, 16, .inl (f 2))), (a 7, .inr (3, [.ref (a 8)])), (a 8, .inl (Γ.2.1, 16, .inl (f 3)))]) s.heap.size = A at hD hA hS ⊢
  obtain ⟨hx, hb, hml, hown, hts⟩ := id S
  have hl : lv_has ls 5 [(0, .ref (q 0)), (1, .ref (a 0))] := hl
  have L_7 : ∀ (fuel : Nat), ∀ (k : Nat) (hk : k ≤ n + 1) (hfk : n + 1 - k < fuel) (hfit : k0 + prt B n k ≤ 16), ∀ (H : Heap) (locs : List Loc), gP Γ [(q 0, .inr (0, [.ref (q 1), .int z])), (q 1, .inr (3, [.ref (q 2)])), (q 2, .inl (Γ.2.1, 60, .inl g)), (a 0, .inr (5, [.ref (a 1), .ref (a 3), .ref (a 5), .ref (a 7), .int (nI (k0 + prt B n k))])), (a 1, .inr (3, [.ref (a 2)])), (a 2, .inl (Γ.2.1, 16, .inl (adI (f 0) k0 (tab B n (n + 1)) 0 (prt B n k)))), (a 3, .inr (3, [.ref (a 4)])), (a 4, .inl (Γ.2.1, 16, .inl (adI (f 1) k0 (tab B n (n + 1)) 1 (prt B n k)))), (a 5, .inr (3, [.ref (a 6)])), (a 6, .inl (Γ.2.1, 16, .inl (adI (f 2) k0 (tab B n (n + 1)) 2 (prt B n k)))), (a 7, .inr (3, [.ref (a 8)])), (a 8, .inl (Γ.2.1, 16, .inl (adI (f 3) k0 (tab B n (n + 1)) 3 (prt B n k))))] H → va_D A [(q 0, .inr (0, [.ref (q 1), .int z])), (q 1, .inr (3, [.ref (q 2)])), (q 2, .inl (Γ.2.1, 60, .inl g)), (a 0, .inr (5, [.ref (a 1), .ref (a 3), .ref (a 5), .ref (a 7), .int (nI (k0 + prt B n k))])), (a 1, .inr (3, [.ref (a 2)])), (a 2, .inl (Γ.2.1, 16, .inl (adI (f 0) k0 (tab B n (n + 1)) 0 (prt B n k)))), (a 3, .inr (3, [.ref (a 4)])), (a 4, .inl (Γ.2.1, 16, .inl (adI (f 1) k0 (tab B n (n + 1)) 1 (prt B n k)))), (a 5, .inr (3, [.ref (a 6)])), (a 6, .inl (Γ.2.1, 16, .inl (adI (f 2) k0 (tab B n (n + 1)) 2 (prt B n k)))), (a 7, .inr (3, [.ref (a 8)])), (a 8, .inl (Γ.2.1, 16, .inl (adI (f 3) k0 (tab B n (n + 1)) 3 (prt B n k))))] → va_S A s.heap H locs → ∀ ls : Array Slot, lv_has ls 5 [(0, .ref (q 0)), (1, .ref (a 0)), (2, .int (nI (prt B n k))), (3, .int (nI (sta B n k))), (4, .int (nI k))] → W p l e rm_X0_readInto s m args below meth c H locs 0 0 (MQ below (va_Qi (S := Unit) (fun r u => r = nI (min (prt B n (n + 1)) (16 - k0))) (fun u t9 => wd Γ A ([(q 0, .inr (0, [.ref (q 1), .int z])), (q 1, .inr (3, [.ref (q 2)])), (q 2, .inl (Γ.2.1, 60, .inl g)), (a 0, .inr (5, [.ref (a 1), .ref (a 3), .ref (a 5), .ref (a 7), .int (nI (k0 + (min (prt B n (n + 1)) (16 - k0))))])), (a 1, .inr (3, [.ref (a 2)])), (a 2, .inl (Γ.2.1, 16, .inl (adI (f 0) k0 (tab B n (n + 1)) 0 (min (prt B n (n + 1)) (16 - k0))))), (a 3, .inr (3, [.ref (a 4)])), (a 4, .inl (Γ.2.1, 16, .inl (adI (f 1) k0 (tab B n (n + 1)) 1 (min (prt B n (n + 1)) (16 - k0))))), (a 5, .inr (3, [.ref (a 6)])), (a 6, .inl (Γ.2.1, 16, .inl (adI (f 2) k0 (tab B n (n + 1)) 2 (min (prt B n (n + 1)) (16 - k0))))), (a 7, .inr (3, [.ref (a 8)])), (a 8, .inl (Γ.2.1, 16, .inl (adI (f 3) k0 (tab B n (n + 1)) 3 (min (prt B n (n + 1)) (16 - k0)))))]) t9) A) args s 0 0 A) (F0 m 7 ls []) := by
    intro fuel
    induction fuel with
    | zero => intro k hk hfk hfit; exact absurd hfk (by omega)
    | succ fuel ih_7 =>
      intro k hk hfk hfit H locs hP hD hS ls hl
      have L_64 : ∀ (x2 : Int32) (x3 : Int32) (e_x2 : x2 = nI (prt B n (k + 1))) (e_x3 : x3 = nI (sta B n (k + 1))) (hkn : k ≤ n) (hf2 : k0 + prt B n (k + 1) ≤ 16), ∀ (H : Heap) (locs : List Loc), gP Γ [(q 0, .inr (0, [.ref (q 1), .int z])), (q 1, .inr (3, [.ref (q 2)])), (q 2, .inl (Γ.2.1, 60, .inl g)), (a 0, .inr (5, [.ref (a 1), .ref (a 3), .ref (a 5), .ref (a 7), .int (nI (k0 + prt B n (k + 1)))])), (a 1, .inr (3, [.ref (a 2)])), (a 2, .inl (Γ.2.1, 16, .inl (adI (f 0) k0 (tab B n (n + 1)) 0 (prt B n (k + 1))))), (a 3, .inr (3, [.ref (a 4)])), (a 4, .inl (Γ.2.1, 16, .inl (adI (f 1) k0 (tab B n (n + 1)) 1 (prt B n (k + 1))))), (a 5, .inr (3, [.ref (a 6)])), (a 6, .inl (Γ.2.1, 16, .inl (adI (f 2) k0 (tab B n (n + 1)) 2 (prt B n (k + 1))))), (a 7, .inr (3, [.ref (a 8)])), (a 8, .inl (Γ.2.1, 16, .inl (adI (f 3) k0 (tab B n (n + 1)) 3 (prt B n (k + 1)))))] H → va_D A [(q 0, .inr (0, [.ref (q 1), .int z])), (q 1, .inr (3, [.ref (q 2)])), (q 2, .inl (Γ.2.1, 60, .inl g)), (a 0, .inr (5, [.ref (a 1), .ref (a 3), .ref (a 5), .ref (a 7), .int (nI (k0 + prt B n (k + 1)))])), (a 1, .inr (3, [.ref (a 2)])), (a 2, .inl (Γ.2.1, 16, .inl (adI (f 0) k0 (tab B n (n + 1)) 0 (prt B n (k + 1))))), (a 3, .inr (3, [.ref (a 4)])), (a 4, .inl (Γ.2.1, 16, .inl (adI (f 1) k0 (tab B n (n + 1)) 1 (prt B n (k + 1))))), (a 5, .inr (3, [.ref (a 6)])), (a 6, .inl (Γ.2.1, 16, .inl (adI (f 2) k0 (tab B n (n + 1)) 2 (prt B n (k + 1))))), (a 7, .inr (3, [.ref (a 8)])), (a 8, .inl (Γ.2.1, 16, .inl (adI (f 3) k0 (tab B n (n + 1)) 3 (prt B n (k + 1)))))] → va_S A s.heap H locs → ∀ ls : Array Slot, lv_has ls 5 [(0, .ref (q 0)), (1, .ref (a 0)), (2, .int x2), (3, .int x3), (4, .int (nI k))] → W p l e rm_X0_readInto s m args below meth c H locs 0 0 (MQ below (va_Qi (S := Unit) (fun r u => r = nI (min (prt B n (n + 1)) (16 - k0))) (fun u t9 => wd Γ A ([(q 0, .inr (0, [.ref (q 1), .int z])), (q 1, .inr (3, [.ref (q 2)])), (q 2, .inl (Γ.2.1, 60, .inl g)), (a 0, .inr (5, [.ref (a 1), .ref (a 3), .ref (a 5), .ref (a 7), .int (nI (k0 + (min (prt B n (n + 1)) (16 - k0))))])), (a 1, .inr (3, [.ref (a 2)])), (a 2, .inl (Γ.2.1, 16, .inl (adI (f 0) k0 (tab B n (n + 1)) 0 (min (prt B n (n + 1)) (16 - k0))))), (a 3, .inr (3, [.ref (a 4)])), (a 4, .inl (Γ.2.1, 16, .inl (adI (f 1) k0 (tab B n (n + 1)) 1 (min (prt B n (n + 1)) (16 - k0))))), (a 5, .inr (3, [.ref (a 6)])), (a 6, .inl (Γ.2.1, 16, .inl (adI (f 2) k0 (tab B n (n + 1)) 2 (min (prt B n (n + 1)) (16 - k0))))), (a 7, .inr (3, [.ref (a 8)])), (a 8, .inl (Γ.2.1, 16, .inl (adI (f 3) k0 (tab B n (n + 1)) 3 (min (prt B n (n + 1)) (16 - k0)))))]) t9) A) args s 0 0 A) (F0 m 64 ls []) := by
        intro x2 x3 e_x2 e_x3 hkn hf2 H locs hP hD hS ls hl
        subst e_x2 e_x3
        refine lv_iinc (v := nI (k + 1)) (lv' := [(4, .int (nI (k + 1))), (0, .ref (q 0)), (1, .ref (a 0)), (2, .int (nI (prt B n (k + 1)))), (3, .int (nI (sta B n (k + 1))))]) hx hb dX0_readInto_64 hl (k := 4) rfl (nI_add _ _) (by decide) rfl (fun ls hl => ?_)
        refine lv_goto (tgt := 7) hx hb dX0_readInto_67 (by decide) ?_
        exact ih_7 (k + 1) (by omega) (by omega) hf2 _ _ hP hD hS ls (lv_sub hl [1, 2, 3, 4, 0] rfl)
      refine lv_iload hx hb dX0_readInto_7 (lv_at hl 4 rfl) ?_
      refine lv_aload_n hx hb dX0_readInto_9 rfl (lv_at hl 0 rfl) ?_
      refine va_get (D := Γ.1) (ci := 0) (v := .int z) (C := RX0) (T := TX0) (N := 2) hx hb hts (by decide +kernel) hown hK hP 0 rfl rfl 1 (by decide) (hts (.fieldLink RX0 20 "RowVeils$Buffer" "length" "I") (by decide +kernel)) (fun _ h9 => h9) rfl dX0_readInto_10 ?_
      refine asi (z := nI n) hz ?_
      refine lv_icmp_gt (tgt := 70) hx hb dX0_readInto_13 (by decide) (fun c_13 => ?_) (fun c_13 => ?_)
      · have n_13 := (nI_ltI (a := n) (b := k) (by omega) (by omega)).mp c_13
        have hcn : (prt B n k) = (min (prt B n (n + 1)) (16 - k0)) := by rw [show k = n + 1 from by omega]; rw [show k = n + 1 from by omega] at hfit; omega
        rw [hcn] at hP hD hl
        have hP : gP Γ [(q 0, .inr (0, [.ref (q 1), .int z])), (q 1, .inr (3, [.ref (q 2)])), (q 2, .inl (Γ.2.1, 60, .inl g)), (a 0, .inr (5, [.ref (a 1), .ref (a 3), .ref (a 5), .ref (a 7), .int (nI (k0 + (min (prt B n (n + 1)) (16 - k0))))])), (a 1, .inr (3, [.ref (a 2)])), (a 2, .inl (Γ.2.1, 16, .inl (adI (f 0) k0 (tab B n (n + 1)) 0 (min (prt B n (n + 1)) (16 - k0))))), (a 3, .inr (3, [.ref (a 4)])), (a 4, .inl (Γ.2.1, 16, .inl (adI (f 1) k0 (tab B n (n + 1)) 1 (min (prt B n (n + 1)) (16 - k0))))), (a 5, .inr (3, [.ref (a 6)])), (a 6, .inl (Γ.2.1, 16, .inl (adI (f 2) k0 (tab B n (n + 1)) 2 (min (prt B n (n + 1)) (16 - k0))))), (a 7, .inr (3, [.ref (a 8)])), (a 8, .inl (Γ.2.1, 16, .inl (adI (f 3) k0 (tab B n (n + 1)) 3 (min (prt B n (n + 1)) (16 - k0)))))] H := hP
        have hD : va_D A [(q 0, .inr (0, [.ref (q 1), .int z])), (q 1, .inr (3, [.ref (q 2)])), (q 2, .inl (Γ.2.1, 60, .inl g)), (a 0, .inr (5, [.ref (a 1), .ref (a 3), .ref (a 5), .ref (a 7), .int (nI (k0 + (min (prt B n (n + 1)) (16 - k0))))])), (a 1, .inr (3, [.ref (a 2)])), (a 2, .inl (Γ.2.1, 16, .inl (adI (f 0) k0 (tab B n (n + 1)) 0 (min (prt B n (n + 1)) (16 - k0))))), (a 3, .inr (3, [.ref (a 4)])), (a 4, .inl (Γ.2.1, 16, .inl (adI (f 1) k0 (tab B n (n + 1)) 1 (min (prt B n (n + 1)) (16 - k0))))), (a 5, .inr (3, [.ref (a 6)])), (a 6, .inl (Γ.2.1, 16, .inl (adI (f 2) k0 (tab B n (n + 1)) 2 (min (prt B n (n + 1)) (16 - k0))))), (a 7, .inr (3, [.ref (a 8)])), (a 8, .inl (Γ.2.1, 16, .inl (adI (f 3) k0 (tab B n (n + 1)) 3 (min (prt B n (n + 1)) (16 - k0)))))] := hD
        have hl : lv_has ls 5 [(0, .ref (q 0)), (1, .ref (a 0)), (2, .int (nI (min (prt B n (n + 1)) (16 - k0)))), (3, .int (nI (sta B n k))), (4, .int (nI k))] := hl
        refine lv_iload_n hx hb dX0_readInto_70 rfl (lv_at hl 2 rfl) ?_
        exact W.iret (v := nI (min (prt B n (n + 1)) (16 - k0))) hx hb hrt (fun t9 ht9 hW9 => ⟨⟨_, (), rfl, rfl, wd_end hK hP hD [0, 1, 2, 3, 4, 5, 6, 7, 8, 9, 10, 11] (by decide) rfl t9 ht9 hW9⟩, hS.F ht9⟩) hS.2.2 dX0_readInto_71 hlk
      · have n_13 := (not_congr (nI_ltI (a := n) (b := k) (by omega) (by omega))).mp c_13
        refine lv_iload hx hb dX0_readInto_16 (lv_at hl 4 rfl) ?_
        refine lv_aload_n hx hb dX0_readInto_18 rfl (lv_at hl 0 rfl) ?_
        refine va_get (D := Γ.1) (ci := 0) (v := .int z) (C := RX0) (T := TX0) (N := 2) hx hb hts (by decide +kernel) hown hK hP 0 rfl rfl 1 (by decide) (hts (.fieldLink RX0 20 "RowVeils$Buffer" "length" "I") (by decide +kernel)) (fun _ h9 => h9) rfl dX0_readInto_19 ?_
        refine asi (z := nI n) hz ?_
        refine lv_icmp_eq (tgt := 39) hx hb dX0_readInto_22 (by decide) (fun c_22 => ?_) (fun c_22 => ?_)
        · have n_22 := (nI_eq (a := k) (b := n) (by omega) (by omega)).mp c_22
          have hcm : cmQ B n k = true := by unfold cmQ; rw [decide_eq_true n_22]; rfl
          refine lv_aload_n hx hb dX0_readInto_39 rfl (lv_at hl 1 rfl) ?_
          refine cRi (As := []) (rest := []) (m_X5_isFull l Γ a (fun i => adI (f i) k0 (tab B n (n + 1)) i (prt B n k)) (k0 + prt B n k) (by omega) (nI (k0 + prt B n k)) rfl) S k_X5_isFull gX0_readInto_X5_isFull rfl ⟨Nat.le_of_ble_eq_true rfl, Nat.le_of_ble_eq_true rfl⟩ hK hP [3, 4, 5, 6, 7, 8, 9, 10, 11] rfl 0 (ci := 5) rfl rfl rfl rfl hl.1 (Nat.le_of_ble_eq_true rfl) rfl dX0_readInto_40 ⟨Nat.le_of_ble_eq_true rfl, Nat.le_of_ble_eq_true rfl⟩ (fun r hr => ?_)
          subst hr
          refine lv_if_eq (tgt := 48) hx hb dX0_readInto_43 (by decide) (fun c_43 => ?_) (fun c_43 => ?_)
          · have n_43 := bI_z.mp c_43
            simp only [Bool.and_eq_true, Bool.or_eq_true, Bool.and_eq_false_iff, Bool.or_eq_false_iff, decide_eq_true_eq, decide_eq_false_iff_not] at n_43
            have hoe := ok_end (n := n) (k := k) (by omega) hcm hw
            refine lv_aload_n hx hb dX0_readInto_48 rfl (lv_at hl 0 rfl) ?_
            refine lv_aload_n hx hb dX0_readInto_49 rfl (lv_at hl 1 rfl) ?_
            refine lv_iload_n hx hb dX0_readInto_50 rfl (lv_at hl 3 rfl) ?_
            refine lv_iload hx hb dX0_readInto_51 (lv_at hl 4 rfl) ?_
            refine cWv (As := [.ref (a 0), .int (nI (sta B n k)), .int (nI k)]) (rest := []) (wr := []) (m_X0_readPart l Γ _ q g B n hn hB z hz a (fun i => adI (f i) k0 (tab B n (n + 1)) i (prt B n k)) (k0 + prt B n k) (by omega) (nI (k0 + prt B n k)) rfl (sta B n k) k hoe.1 (by omega) hoe.2.1 hoe.2.2.2.1 hoe.2.2.2.2.1) S k_X0_readPart gX0_readInto_X0_readPart rfl ⟨Nat.le_of_ble_eq_true rfl, Nat.le_of_ble_eq_true rfl⟩ hK hP hD hS hA [0, 1, 2, 3, 4, 5, 6, 7, 8, 9, 10, 11] [] rfl rfl (by decide) (by decide) (by decide) 0 (ci := 0) rfl rfl rfl rfl hl.1 (Nat.le_of_ble_eq_true rfl) rfl dX0_readInto_53 ⟨Nat.le_of_ble_eq_true rfl, Nat.le_of_ble_eq_true rfl⟩ (fun u H locs hr hP hD hS => ?_)
            have hP : gP Γ [(q 0, .inr (0, [.ref (q 1), .int z])), (q 1, .inr (3, [.ref (q 2)])), (q 2, .inl (Γ.2.1, 60, .inl g)), (a 0, .inr (5, [.ref (a 1), .ref (a 3), .ref (a 5), .ref (a 7), .int (nI (k0 + prt B n k + 1))])), (a 1, .inr (3, [.ref (a 2)])), (a 2, .inl (Γ.2.1, 16, .inl (upd (adI (f 0) k0 (tab B n (n + 1)) 0 (prt B n k)) (k0 + prt B n k) (nI (prtV B (sta B n k) k 0))))), (a 3, .inr (3, [.ref (a 4)])), (a 4, .inl (Γ.2.1, 16, .inl (upd (adI (f 1) k0 (tab B n (n + 1)) 1 (prt B n k)) (k0 + prt B n k) (nI (prtV B (sta B n k) k 1))))), (a 5, .inr (3, [.ref (a 6)])), (a 6, .inl (Γ.2.1, 16, .inl (upd (adI (f 2) k0 (tab B n (n + 1)) 2 (prt B n k)) (k0 + prt B n k) (nI (prtV B (sta B n k) k 2))))), (a 7, .inr (3, [.ref (a 8)])), (a 8, .inl (Γ.2.1, 16, .inl (upd (adI (f 3) k0 (tab B n (n + 1)) 3 (prt B n k)) (k0 + prt B n k) (nI (prtV B (sta B n k) k 3)))))] H := hP
            have hD : va_D A [(q 0, .inr (0, [.ref (q 1), .int z])), (q 1, .inr (3, [.ref (q 2)])), (q 2, .inl (Γ.2.1, 60, .inl g)), (a 0, .inr (5, [.ref (a 1), .ref (a 3), .ref (a 5), .ref (a 7), .int (nI (k0 + prt B n k + 1))])), (a 1, .inr (3, [.ref (a 2)])), (a 2, .inl (Γ.2.1, 16, .inl (upd (adI (f 0) k0 (tab B n (n + 1)) 0 (prt B n k)) (k0 + prt B n k) (nI (prtV B (sta B n k) k 0))))), (a 3, .inr (3, [.ref (a 4)])), (a 4, .inl (Γ.2.1, 16, .inl (upd (adI (f 1) k0 (tab B n (n + 1)) 1 (prt B n k)) (k0 + prt B n k) (nI (prtV B (sta B n k) k 1))))), (a 5, .inr (3, [.ref (a 6)])), (a 6, .inl (Γ.2.1, 16, .inl (upd (adI (f 2) k0 (tab B n (n + 1)) 2 (prt B n k)) (k0 + prt B n k) (nI (prtV B (sta B n k) k 2))))), (a 7, .inr (3, [.ref (a 8)])), (a 8, .inl (Γ.2.1, 16, .inl (upd (adI (f 3) k0 (tab B n (n + 1)) 3 (prt B n k)) (k0 + prt B n k) (nI (prtV B (sta B n k) k 3)))))] := hD
            rw [ad_s (g := f 0) (T := (tab B n (n + 1))) (w := 0) (k := prt B n k) (tab_at hcm (by omega))] at hP hD
            rw [ad_s (g := f 1) (T := (tab B n (n + 1))) (w := 1) (k := prt B n k) (tab_at hcm (by omega))] at hP hD
            rw [ad_s (g := f 2) (T := (tab B n (n + 1))) (w := 2) (k := prt B n k) (tab_at hcm (by omega))] at hP hD
            rw [ad_s (g := f 3) (T := (tab B n (n + 1))) (w := 3) (k := prt B n k) (tab_at hcm (by omega))] at hP hD
            rw [show prt B n k + 1 = prt B n (k + 1) from (prt_t hcm).symm, show k0 + prt B n k + 1 = k0 + prt B n (k + 1) from by rw [prt_t hcm]; rfl] at hP hD
            refine lv_iinc (v := nI ((prt B n k) + 1)) (lv' := [(2, .int (nI ((prt B n k) + 1))), (0, .ref (q 0)), (1, .ref (a 0)), (3, .int (nI (sta B n k))), (4, .int (nI k))]) hx hb dX0_readInto_56 hl (k := 2) rfl (nI_add _ _) (by decide) rfl (fun ls hl => ?_)
            refine lv_iload hx hb dX0_readInto_59 (lv_at hl 4 rfl) ?_
            refine lv_iconst (v := nI 1) hx hb dX0_readInto_61 (by decide) ?_
            refine lv_iadd hx hb dX0_readInto_62 ?_
            refine asi (z := nI (k + 1)) (nI_add _ _) ?_
            refine lv_istore_n (lv' := [(3, .int (nI (k + 1))), (2, .int (nI ((prt B n k) + 1))), (0, .ref (q 0)), (1, .ref (a 0)), (4, .int (nI k))]) hx hb dX0_readInto_63 rfl hl (by decide) rfl (fun ls hl => ?_)
            exact L_64 (nI ((prt B n k) + 1)) (nI (k + 1)) (by first | exact congrArg nI (prt_t hcm).symm | exact congrArg nI (prt_f hcf).symm) (by first | exact congrArg nI (sta_t hcm).symm | exact congrArg nI (sta_f hcf).symm) (by omega) (by first | (rw [prt_t hcm]; omega) | (rw [prt_f hcf]; omega)) _ _ hP hD hS ls (lv_sub hl [2, 3, 1, 0, 4] rfl)
          · have n_43 := bI_nz.mp c_43
            simp only [Bool.and_eq_true, Bool.or_eq_true, Bool.and_eq_false_iff, Bool.or_eq_false_iff, decide_eq_true_eq, decide_eq_false_iff_not] at n_43
            have hcn : (prt B n k) = (min (prt B n (n + 1)) (16 - k0)) := by have h9 := prt_t hcm; have h8 := prt_mono (B := B) (n := n) (show k + 1 ≤ n + 1 by omega); omega
            rw [hcn] at hP hD hl
            have hP : gP Γ [(q 0, .inr (0, [.ref (q 1), .int z])), (q 1, .inr (3, [.ref (q 2)])), (q 2, .inl (Γ.2.1, 60, .inl g)), (a 0, .inr (5, [.ref (a 1), .ref (a 3), .ref (a 5), .ref (a 7), .int (nI (k0 + (min (prt B n (n + 1)) (16 - k0))))])), (a 1, .inr (3, [.ref (a 2)])), (a 2, .inl (Γ.2.1, 16, .inl (adI (f 0) k0 (tab B n (n + 1)) 0 (min (prt B n (n + 1)) (16 - k0))))), (a 3, .inr (3, [.ref (a 4)])), (a 4, .inl (Γ.2.1, 16, .inl (adI (f 1) k0 (tab B n (n + 1)) 1 (min (prt B n (n + 1)) (16 - k0))))), (a 5, .inr (3, [.ref (a 6)])), (a 6, .inl (Γ.2.1, 16, .inl (adI (f 2) k0 (tab B n (n + 1)) 2 (min (prt B n (n + 1)) (16 - k0))))), (a 7, .inr (3, [.ref (a 8)])), (a 8, .inl (Γ.2.1, 16, .inl (adI (f 3) k0 (tab B n (n + 1)) 3 (min (prt B n (n + 1)) (16 - k0)))))] H := hP
            have hD : va_D A [(q 0, .inr (0, [.ref (q 1), .int z])), (q 1, .inr (3, [.ref (q 2)])), (q 2, .inl (Γ.2.1, 60, .inl g)), (a 0, .inr (5, [.ref (a 1), .ref (a 3), .ref (a 5), .ref (a 7), .int (nI (k0 + (min (prt B n (n + 1)) (16 - k0))))])), (a 1, .inr (3, [.ref (a 2)])), (a 2, .inl (Γ.2.1, 16, .inl (adI (f 0) k0 (tab B n (n + 1)) 0 (min (prt B n (n + 1)) (16 - k0))))), (a 3, .inr (3, [.ref (a 4)])), (a 4, .inl (Γ.2.1, 16, .inl (adI (f 1) k0 (tab B n (n + 1)) 1 (min (prt B n (n + 1)) (16 - k0))))), (a 5, .inr (3, [.ref (a 6)])), (a 6, .inl (Γ.2.1, 16, .inl (adI (f 2) k0 (tab B n (n + 1)) 2 (min (prt B n (n + 1)) (16 - k0))))), (a 7, .inr (3, [.ref (a 8)])), (a 8, .inl (Γ.2.1, 16, .inl (adI (f 3) k0 (tab B n (n + 1)) 3 (min (prt B n (n + 1)) (16 - k0)))))] := hD
            have hl : lv_has ls 5 [(0, .ref (q 0)), (1, .ref (a 0)), (2, .int (nI (min (prt B n (n + 1)) (16 - k0)))), (3, .int (nI (sta B n k))), (4, .int (nI k))] := hl
            refine lv_iload_n hx hb dX0_readInto_46 rfl (lv_at hl 2 rfl) ?_
            exact W.iret (v := nI (min (prt B n (n + 1)) (16 - k0))) hx hb hrt (fun t9 ht9 hW9 => ⟨⟨_, (), rfl, rfl, wd_end hK hP hD [0, 1, 2, 3, 4, 5, 6, 7, 8, 9, 10, 11] (by decide) rfl t9 ht9 hW9⟩, hS.F ht9⟩) hS.2.2 dX0_readInto_47 hlk
        · have n_22 := (not_congr (nI_eq (a := k) (b := n) (by omega) (by omega))).mp c_22
          refine lv_aload_n hx hb dX0_readInto_25 rfl (lv_at hl 0 rfl) ?_
          refine va_get (D := Γ.1) (ci := 0) (v := .ref (q 1)) (C := RX0) (T := TX0) (N := 2) hx hb hts (by decide +kernel) hown hK hP 0 rfl rfl 0 (by decide) (hts (.fieldLink RX0 14 "RowVeils$Buffer" "codes" "LRowVeils$Numbers;") (by decide +kernel)) (fun _ h9 => h9) rfl dX0_readInto_26 ?_
          refine lv_iload hx hb dX0_readInto_29 (lv_at hl 4 rfl) ?_
          refine cRi (As := [.int (nI k)]) (rest := []) (m_X3_get l Γ (q 1) (q 2) 60 k g (by decide) (by omega)) S k_X3_get gX0_readInto_X3_get rfl ⟨Nat.le_of_ble_eq_true rfl, Nat.le_of_ble_eq_true rfl⟩ hK hP [1, 2] rfl 0 (ci := 3) rfl rfl rfl rfl hl.1 (Nat.le_of_ble_eq_true rfl) rfl dX0_readInto_31 ⟨Nat.le_of_ble_eq_true rfl, Nat.le_of_ble_eq_true rfl⟩ (fun r hr => ?_)
          subst hr
          have hbg := hB k (by omega)
          refine asi (z := nI (B k)) hbg.1 ?_
          refine lv_bipush (v := nI 44) hx hb dX0_readInto_34 (by decide) ?_
          refine lv_icmp_ne (tgt := 64) hx hb dX0_readInto_36 (by decide) (fun c_36 => ?_) (fun c_36 => ?_)
          · have n_36 := (not_congr (nI_eq (a := B k) (b := 44) (by omega) (by decide))).mp c_36
            have hcf : cmQ B n k = false := by unfold cmQ; rw [decide_eq_false n_36, decide_eq_false (fun h => n_22 h)]; rfl
            rw [show prt B n k = prt B n (k + 1) from (prt_f hcf).symm] at hP hD; have hP : gP Γ [(q 0, .inr (0, [.ref (q 1), .int z])), (q 1, .inr (3, [.ref (q 2)])), (q 2, .inl (Γ.2.1, 60, .inl g)), (a 0, .inr (5, [.ref (a 1), .ref (a 3), .ref (a 5), .ref (a 7), .int (nI (k0 + prt B n (k + 1)))])), (a 1, .inr (3, [.ref (a 2)])), (a 2, .inl (Γ.2.1, 16, .inl (adI (f 0) k0 (tab B n (n + 1)) 0 (prt B n (k + 1))))), (a 3, .inr (3, [.ref (a 4)])), (a 4, .inl (Γ.2.1, 16, .inl (adI (f 1) k0 (tab B n (n + 1)) 1 (prt B n (k + 1))))), (a 5, .inr (3, [.ref (a 6)])), (a 6, .inl (Γ.2.1, 16, .inl (adI (f 2) k0 (tab B n (n + 1)) 2 (prt B n (k + 1))))), (a 7, .inr (3, [.ref (a 8)])), (a 8, .inl (Γ.2.1, 16, .inl (adI (f 3) k0 (tab B n (n + 1)) 3 (prt B n (k + 1)))))] H := hP; have hD : va_D A [(q 0, .inr (0, [.ref (q 1), .int z])), (q 1, .inr (3, [.ref (q 2)])), (q 2, .inl (Γ.2.1, 60, .inl g)), (a 0, .inr (5, [.ref (a 1), .ref (a 3), .ref (a 5), .ref (a 7), .int (nI (k0 + prt B n (k + 1)))])), (a 1, .inr (3, [.ref (a 2)])), (a 2, .inl (Γ.2.1, 16, .inl (adI (f 0) k0 (tab B n (n + 1)) 0 (prt B n (k + 1))))), (a 3, .inr (3, [.ref (a 4)])), (a 4, .inl (Γ.2.1, 16, .inl (adI (f 1) k0 (tab B n (n + 1)) 1 (prt B n (k + 1))))), (a 5, .inr (3, [.ref (a 6)])), (a 6, .inl (Γ.2.1, 16, .inl (adI (f 2) k0 (tab B n (n + 1)) 2 (prt B n (k + 1))))), (a 7, .inr (3, [.ref (a 8)])), (a 8, .inl (Γ.2.1, 16, .inl (adI (f 3) k0 (tab B n (n + 1)) 3 (prt B n (k + 1)))))] := hD
            exact L_64 (nI (prt B n k)) (nI (sta B n k)) (by first | exact congrArg nI (prt_t hcm).symm | exact congrArg nI (prt_f hcf).symm) (by first | exact congrArg nI (sta_t hcm).symm | exact congrArg nI (sta_f hcf).symm) (by omega) (by first | (rw [prt_t hcm]; omega) | (rw [prt_f hcf]; omega)) _ _ hP hD hS ls (lv_sub hl [0, 1, 2, 3, 4] rfl)
          · have n_36 := (nI_eq (a := B k) (b := 44) (by omega) (by decide)).mp c_36
            have hcm : cmQ B n k = true := by unfold cmQ; rw [decide_eq_true n_36, Bool.or_true]
            refine lv_aload_n hx hb dX0_readInto_39 rfl (lv_at hl 1 rfl) ?_
            refine cRi (As := []) (rest := []) (m_X5_isFull l Γ a (fun i => adI (f i) k0 (tab B n (n + 1)) i (prt B n k)) (k0 + prt B n k) (by omega) (nI (k0 + prt B n k)) rfl) S k_X5_isFull gX0_readInto_X5_isFull rfl ⟨Nat.le_of_ble_eq_true rfl, Nat.le_of_ble_eq_true rfl⟩ hK hP [3, 4, 5, 6, 7, 8, 9, 10, 11] rfl 0 (ci := 5) rfl rfl rfl rfl hl.1 (Nat.le_of_ble_eq_true rfl) rfl dX0_readInto_40 ⟨Nat.le_of_ble_eq_true rfl, Nat.le_of_ble_eq_true rfl⟩ (fun r hr => ?_)
            subst hr
            refine lv_if_eq (tgt := 48) hx hb dX0_readInto_43 (by decide) (fun c_43 => ?_) (fun c_43 => ?_)
            · have n_43 := bI_z.mp c_43
              simp only [Bool.and_eq_true, Bool.or_eq_true, Bool.and_eq_false_iff, Bool.or_eq_false_iff, decide_eq_true_eq, decide_eq_false_iff_not] at n_43
              have hoe := ok_end (n := n) (k := k) (by omega) hcm hw
              refine lv_aload_n hx hb dX0_readInto_48 rfl (lv_at hl 0 rfl) ?_
              refine lv_aload_n hx hb dX0_readInto_49 rfl (lv_at hl 1 rfl) ?_
              refine lv_iload_n hx hb dX0_readInto_50 rfl (lv_at hl 3 rfl) ?_
              refine lv_iload hx hb dX0_readInto_51 (lv_at hl 4 rfl) ?_
              refine cWv (As := [.ref (a 0), .int (nI (sta B n k)), .int (nI k)]) (rest := []) (wr := []) (m_X0_readPart l Γ _ q g B n hn hB z hz a (fun i => adI (f i) k0 (tab B n (n + 1)) i (prt B n k)) (k0 + prt B n k) (by omega) (nI (k0 + prt B n k)) rfl (sta B n k) k hoe.1 (by omega) hoe.2.1 hoe.2.2.2.1 hoe.2.2.2.2.1) S k_X0_readPart gX0_readInto_X0_readPart rfl ⟨Nat.le_of_ble_eq_true rfl, Nat.le_of_ble_eq_true rfl⟩ hK hP hD hS hA [0, 1, 2, 3, 4, 5, 6, 7, 8, 9, 10, 11] [] rfl rfl (by decide) (by decide) (by decide) 0 (ci := 0) rfl rfl rfl rfl hl.1 (Nat.le_of_ble_eq_true rfl) rfl dX0_readInto_53 ⟨Nat.le_of_ble_eq_true rfl, Nat.le_of_ble_eq_true rfl⟩ (fun u H locs hr hP hD hS => ?_)
              have hP : gP Γ [(q 0, .inr (0, [.ref (q 1), .int z])), (q 1, .inr (3, [.ref (q 2)])), (q 2, .inl (Γ.2.1, 60, .inl g)), (a 0, .inr (5, [.ref (a 1), .ref (a 3), .ref (a 5), .ref (a 7), .int (nI (k0 + prt B n k + 1))])), (a 1, .inr (3, [.ref (a 2)])), (a 2, .inl (Γ.2.1, 16, .inl (upd (adI (f 0) k0 (tab B n (n + 1)) 0 (prt B n k)) (k0 + prt B n k) (nI (prtV B (sta B n k) k 0))))), (a 3, .inr (3, [.ref (a 4)])), (a 4, .inl (Γ.2.1, 16, .inl (upd (adI (f 1) k0 (tab B n (n + 1)) 1 (prt B n k)) (k0 + prt B n k) (nI (prtV B (sta B n k) k 1))))), (a 5, .inr (3, [.ref (a 6)])), (a 6, .inl (Γ.2.1, 16, .inl (upd (adI (f 2) k0 (tab B n (n + 1)) 2 (prt B n k)) (k0 + prt B n k) (nI (prtV B (sta B n k) k 2))))), (a 7, .inr (3, [.ref (a 8)])), (a 8, .inl (Γ.2.1, 16, .inl (upd (adI (f 3) k0 (tab B n (n + 1)) 3 (prt B n k)) (k0 + prt B n k) (nI (prtV B (sta B n k) k 3)))))] H := hP
              have hD : va_D A [(q 0, .inr (0, [.ref (q 1), .int z])), (q 1, .inr (3, [.ref (q 2)])), (q 2, .inl (Γ.2.1, 60, .inl g)), (a 0, .inr (5, [.ref (a 1), .ref (a 3), .ref (a 5), .ref (a 7), .int (nI (k0 + prt B n k + 1))])), (a 1, .inr (3, [.ref (a 2)])), (a 2, .inl (Γ.2.1, 16, .inl (upd (adI (f 0) k0 (tab B n (n + 1)) 0 (prt B n k)) (k0 + prt B n k) (nI (prtV B (sta B n k) k 0))))), (a 3, .inr (3, [.ref (a 4)])), (a 4, .inl (Γ.2.1, 16, .inl (upd (adI (f 1) k0 (tab B n (n + 1)) 1 (prt B n k)) (k0 + prt B n k) (nI (prtV B (sta B n k) k 1))))), (a 5, .inr (3, [.ref (a 6)])), (a 6, .inl (Γ.2.1, 16, .inl (upd (adI (f 2) k0 (tab B n (n + 1)) 2 (prt B n k)) (k0 + prt B n k) (nI (prtV B (sta B n k) k 2))))), (a 7, .inr (3, [.ref (a 8)])), (a 8, .inl (Γ.2.1, 16, .inl (upd (adI (f 3) k0 (tab B n (n + 1)) 3 (prt B n k)) (k0 + prt B n k) (nI (prtV B (sta B n k) k 3)))))] := hD
              rw [ad_s (g := f 0) (T := (tab B n (n + 1))) (w := 0) (k := prt B n k) (tab_at hcm (by omega))] at hP hD
              rw [ad_s (g := f 1) (T := (tab B n (n + 1))) (w := 1) (k := prt B n k) (tab_at hcm (by omega))] at hP hD
              rw [ad_s (g := f 2) (T := (tab B n (n + 1))) (w := 2) (k := prt B n k) (tab_at hcm (by omega))] at hP hD
              rw [ad_s (g := f 3) (T := (tab B n (n + 1))) (w := 3) (k := prt B n k) (tab_at hcm (by omega))] at hP hD
              rw [show prt B n k + 1 = prt B n (k + 1) from (prt_t hcm).symm, show k0 + prt B n k + 1 = k0 + prt B n (k + 1) from by rw [prt_t hcm]; rfl] at hP hD
              refine lv_iinc (v := nI ((prt B n k) + 1)) (lv' := [(2, .int (nI ((prt B n k) + 1))), (0, .ref (q 0)), (1, .ref (a 0)), (3, .int (nI (sta B n k))), (4, .int (nI k))]) hx hb dX0_readInto_56 hl (k := 2) rfl (nI_add _ _) (by decide) rfl (fun ls hl => ?_)
              refine lv_iload hx hb dX0_readInto_59 (lv_at hl 4 rfl) ?_
              refine lv_iconst (v := nI 1) hx hb dX0_readInto_61 (by decide) ?_
              refine lv_iadd hx hb dX0_readInto_62 ?_
              refine asi (z := nI (k + 1)) (nI_add _ _) ?_
              refine lv_istore_n (lv' := [(3, .int (nI (k + 1))), (2, .int (nI ((prt B n k) + 1))), (0, .ref (q 0)), (1, .ref (a 0)), (4, .int (nI k))]) hx hb dX0_readInto_63 rfl hl (by decide) rfl (fun ls hl => ?_)
              exact L_64 (nI ((prt B n k) + 1)) (nI (k + 1)) (by first | exact congrArg nI (prt_t hcm).symm | exact congrArg nI (prt_f hcf).symm) (by first | exact congrArg nI (sta_t hcm).symm | exact congrArg nI (sta_f hcf).symm) (by omega) (by first | (rw [prt_t hcm]; omega) | (rw [prt_f hcf]; omega)) _ _ hP hD hS ls (lv_sub hl [2, 3, 1, 0, 4] rfl)
            · have n_43 := bI_nz.mp c_43
              simp only [Bool.and_eq_true, Bool.or_eq_true, Bool.and_eq_false_iff, Bool.or_eq_false_iff, decide_eq_true_eq, decide_eq_false_iff_not] at n_43
              have hcn : (prt B n k) = (min (prt B n (n + 1)) (16 - k0)) := by have h9 := prt_t hcm; have h8 := prt_mono (B := B) (n := n) (show k + 1 ≤ n + 1 by omega); omega
              rw [hcn] at hP hD hl
              have hP : gP Γ [(q 0, .inr (0, [.ref (q 1), .int z])), (q 1, .inr (3, [.ref (q 2)])), (q 2, .inl (Γ.2.1, 60, .inl g)), (a 0, .inr (5, [.ref (a 1), .ref (a 3), .ref (a 5), .ref (a 7), .int (nI (k0 + (min (prt B n (n + 1)) (16 - k0))))])), (a 1, .inr (3, [.ref (a 2)])), (a 2, .inl (Γ.2.1, 16, .inl (adI (f 0) k0 (tab B n (n + 1)) 0 (min (prt B n (n + 1)) (16 - k0))))), (a 3, .inr (3, [.ref (a 4)])), (a 4, .inl (Γ.2.1, 16, .inl (adI (f 1) k0 (tab B n (n + 1)) 1 (min (prt B n (n + 1)) (16 - k0))))), (a 5, .inr (3, [.ref (a 6)])), (a 6, .inl (Γ.2.1, 16, .inl (adI (f 2) k0 (tab B n (n + 1)) 2 (min (prt B n (n + 1)) (16 - k0))))), (a 7, .inr (3, [.ref (a 8)])), (a 8, .inl (Γ.2.1, 16, .inl (adI (f 3) k0 (tab B n (n + 1)) 3 (min (prt B n (n + 1)) (16 - k0)))))] H := hP
              have hD : va_D A [(q 0, .inr (0, [.ref (q 1), .int z])), (q 1, .inr (3, [.ref (q 2)])), (q 2, .inl (Γ.2.1, 60, .inl g)), (a 0, .inr (5, [.ref (a 1), .ref (a 3), .ref (a 5), .ref (a 7), .int (nI (k0 + (min (prt B n (n + 1)) (16 - k0))))])), (a 1, .inr (3, [.ref (a 2)])), (a 2, .inl (Γ.2.1, 16, .inl (adI (f 0) k0 (tab B n (n + 1)) 0 (min (prt B n (n + 1)) (16 - k0))))), (a 3, .inr (3, [.ref (a 4)])), (a 4, .inl (Γ.2.1, 16, .inl (adI (f 1) k0 (tab B n (n + 1)) 1 (min (prt B n (n + 1)) (16 - k0))))), (a 5, .inr (3, [.ref (a 6)])), (a 6, .inl (Γ.2.1, 16, .inl (adI (f 2) k0 (tab B n (n + 1)) 2 (min (prt B n (n + 1)) (16 - k0))))), (a 7, .inr (3, [.ref (a 8)])), (a 8, .inl (Γ.2.1, 16, .inl (adI (f 3) k0 (tab B n (n + 1)) 3 (min (prt B n (n + 1)) (16 - k0)))))] := hD
              have hl : lv_has ls 5 [(0, .ref (q 0)), (1, .ref (a 0)), (2, .int (nI (min (prt B n (n + 1)) (16 - k0)))), (3, .int (nI (sta B n k))), (4, .int (nI k))] := hl
              refine lv_iload_n hx hb dX0_readInto_46 rfl (lv_at hl 2 rfl) ?_
              exact W.iret (v := nI (min (prt B n (n + 1)) (16 - k0))) hx hb hrt (fun t9 ht9 hW9 => ⟨⟨_, (), rfl, rfl, wd_end hK hP hD [0, 1, 2, 3, 4, 5, 6, 7, 8, 9, 10, 11] (by decide) rfl t9 ht9 hW9⟩, hS.F ht9⟩) hS.2.2 dX0_readInto_47 hlk
  have hH : s.heap = s.heap := rfl
  refine lv_iconst (v := nI 0) hx hb dX0_readInto_0 (by decide) ?_
  refine lv_istore_n (lv' := [(2, .int (nI 0)), (0, .ref (q 0)), (1, .ref (a 0))]) hx hb dX0_readInto_1 rfl hl (by decide) rfl (fun ls hl => ?_)
  refine lv_iconst (v := nI 0) hx hb dX0_readInto_2 (by decide) ?_
  refine lv_istore_n (lv' := [(3, .int (nI 0)), (2, .int (nI 0)), (0, .ref (q 0)), (1, .ref (a 0))]) hx hb dX0_readInto_3 rfl hl (by decide) rfl (fun ls hl => ?_)
  refine lv_iconst (v := nI 0) hx hb dX0_readInto_4 (by decide) ?_
  have hP : gP Γ [(q 0, .inr (0, [.ref (q 1), .int z])), (q 1, .inr (3, [.ref (q 2)])), (q 2, .inl (Γ.2.1, 60, .inl g)), (a 0, .inr (5, [.ref (a 1), .ref (a 3), .ref (a 5), .ref (a 7), .int (nI (k0 + prt B n 0))])), (a 1, .inr (3, [.ref (a 2)])), (a 2, .inl (Γ.2.1, 16, .inl (adI (f 0) k0 (tab B n (n + 1)) 0 (prt B n 0)))), (a 3, .inr (3, [.ref (a 4)])), (a 4, .inl (Γ.2.1, 16, .inl (adI (f 1) k0 (tab B n (n + 1)) 1 (prt B n 0)))), (a 5, .inr (3, [.ref (a 6)])), (a 6, .inl (Γ.2.1, 16, .inl (adI (f 2) k0 (tab B n (n + 1)) 2 (prt B n 0)))), (a 7, .inr (3, [.ref (a 8)])), (a 8, .inl (Γ.2.1, 16, .inl (adI (f 3) k0 (tab B n (n + 1)) 3 (prt B n 0))))] s.heap := by simp only [show prt B n 0 = 0 from rfl, ad_0]; rw [hz2] at hP; exact hP
  have hD : va_D A [(q 0, .inr (0, [.ref (q 1), .int z])), (q 1, .inr (3, [.ref (q 2)])), (q 2, .inl (Γ.2.1, 60, .inl g)), (a 0, .inr (5, [.ref (a 1), .ref (a 3), .ref (a 5), .ref (a 7), .int (nI (k0 + prt B n 0))])), (a 1, .inr (3, [.ref (a 2)])), (a 2, .inl (Γ.2.1, 16, .inl (adI (f 0) k0 (tab B n (n + 1)) 0 (prt B n 0)))), (a 3, .inr (3, [.ref (a 4)])), (a 4, .inl (Γ.2.1, 16, .inl (adI (f 1) k0 (tab B n (n + 1)) 1 (prt B n 0)))), (a 5, .inr (3, [.ref (a 6)])), (a 6, .inl (Γ.2.1, 16, .inl (adI (f 2) k0 (tab B n (n + 1)) 2 (prt B n 0)))), (a 7, .inr (3, [.ref (a 8)])), (a 8, .inl (Γ.2.1, 16, .inl (adI (f 3) k0 (tab B n (n + 1)) 3 (prt B n 0))))] := by simp only [show prt B n 0 = 0 from rfl, ad_0]; rw [hz2] at hD; exact hD
  refine lv_istore (lv' := [(4, .int (nI 0)), (3, .int (nI 0)), (2, .int (nI 0)), (0, .ref (q 0)), (1, .ref (a 0))]) hx hb dX0_readInto_5 hl (by decide) rfl (fun ls hl => ?_)
  exact L_7 (n + 2) 0 (by omega) (by omega) hk0 _ _ hP hD hS ls (lv_sub hl [3, 4, 2, 1, 0] rfl)

