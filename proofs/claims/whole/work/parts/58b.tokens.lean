/-! pure: tokens, words, numbers, ends -/
theorem r32 {n p q : Nat} {B : Nat → Nat} {fb ft : Nat → Int32} (T : TX n B fb ft) (R : RU n B 32 32 p q) : sp_X5_behindRun (nI p) 32 32 (nI n) fb = some (nI q) := run7 (lo := 32) (hi := 32) T R (by omega) (by omega)
theorem adv_end {n p : Nat} {v : Int32} {B : Nat → Nat} {fb ft : Nat → Int32} (T : TX n B fb ft) (R : RU n B 32 32 p n) : sp_X5_advance (nI n) (nI p) v fb = some (0, nI n, nI (n + 1), v) := by
  have hn := T.1
  unfold sp_X5_advance
  rw [r32 T R]
  simp only [Option.bind_some]
  rw [if_neg (nI_nlt (Nat.le_refl n) (by omega)), nI_1]
theorem adv_stop {n p q : Nat} {v : Int32} {B : Nat → Nat} {fb ft : Nat → Int32} (T : TX n B fb ft) (R : RU n B 32 32 p q) (c : q < n) (e : B q = 59) : sp_X5_advance (nI n) (nI p) v fb = some (3, nI q, nI (q + 1), v) := by
  have hn := T.1
  unfold sp_X5_advance
  rw [r32 T R]
  simp only [Option.bind_some]
  rw [if_pos (nI_lt c (by omega)), at_n (by omega) (by omega), (T.2 q c).1, if_pos (show nI (B q) = 59 from by rw [e]; rfl), nI_1]
theorem n59 {n q : Nat} {B : Nat → Nat} {fb ft : Nat → Int32} (T : TX n B fb ft) (c : q < n) (e : ¬ B q = 59) : ¬ nI (B q) = 59 := fun h => e ((nI_eq (b := 59) (by have := (T.2 q c).2.2; omega) (by omega)).mp h)
theorem adv_word {n p q r : Nat} {v : Int32} {B : Nat → Nat} {fb ft : Nat → Int32} (T : TX n B fb ft) (R : RU n B 32 32 p q) (c : q < n) (e : 97 ≤ B q ∧ B q ≤ 122) (R2 : RU n B 97 122 q r) : sp_X5_advance (nI n) (nI p) v fb = some (1, nI q, nI r, v) := by
  have hn := T.1
  unfold sp_X5_advance
  rw [r32 T R]
  simp only [Option.bind_some]
  rw [if_pos (nI_lt c (by omega)), at_n (by omega) (by omega), (T.2 q c).1, if_neg (n59 T c (by omega)), in_eq, show sp_X8_in (nI (B q)) 97 122 = 1 from in_yes (lo := 97) (hi := 122) e.1 e.2 (by omega), if_neg (show ¬ (1 : Int32) = 0 from by decide), show sp_X5_behindRun (nI q) 97 122 (nI n) fb = some (nI r) from run7 (lo := 97) (hi := 122) T R2 (by omega) (by omega)]
  rfl
theorem adv_figs {n p q r : Nat} {v : Int32} {B : Nat → Nat} {fb ft : Nat → Int32} (T : TX n B fb ft) (R : RU n B 32 32 p q) (c : q < n) (e : 48 ≤ B q ∧ B q ≤ 57) (R2 : RU n B 48 57 q r) : sp_X5_advance (nI n) (nI p) v fb = some (if 2 < r - q then 4 else 2, nI q, nI r, dgs B q (r - q)) := by
  have hn := T.1
  unfold sp_X5_advance
  rw [r32 T R]
  simp only [Option.bind_some]
  rw [if_pos (nI_lt c (by omega)), at_n (by omega) (by omega), (T.2 q c).1, if_neg (n59 T c (by omega)), in_eq, show sp_X8_in (nI (B q)) 97 122 = 0 from in_no (lo := 97) (hi := 122) (by have := (T.2 q c).2.2; omega) (by omega) (by omega) (by omega), if_pos rfl, in_eq, show sp_X8_in (nI (B q)) 48 57 = 1 from in_yes (lo := 48) (hi := 57) e.1 e.2 (by omega), if_neg (show ¬ (1 : Int32) = 0 from by decide), show sp_X5_behindRun (nI q) 48 57 (nI n) fb = some (nI r) from run7 (lo := 48) (hi := 57) T R2 (by omega) (by omega)]
  simp only [Option.bind_some]
  rw [figs7 T R2.1 R2.2.1]
  rfl
theorem adv_other {n p q : Nat} {v : Int32} {B : Nat → Nat} {fb ft : Nat → Int32} (T : TX n B fb ft) (R : RU n B 32 32 p q) (c : q < n) (e1 : ¬ B q = 59) (e2 : ¬ (97 ≤ B q ∧ B q ≤ 122)) (e3 : ¬ (48 ≤ B q ∧ B q ≤ 57)) : sp_X5_advance (nI n) (nI p) v fb = some (4, nI q, nI (q + 1), v) := by
  have hn := T.1
  have h127 := (T.2 q c).2.2
  unfold sp_X5_advance
  rw [r32 T R]
  simp only [Option.bind_some]
  rw [if_pos (nI_lt c (by omega)), at_n (by omega) (by omega), (T.2 q c).1, if_neg (n59 T c e1), in_eq, show sp_X8_in (nI (B q)) 97 122 = 0 from in_no (lo := 97) (hi := 122) (by omega) (by omega) (by omega) e2, if_pos rfl, in_eq, show sp_X8_in (nI (B q)) 48 57 = 0 from in_no (lo := 48) (hi := 57) (by omega) (by omega) (by omega) e3, if_pos rfl, nI_1]
/-- a token that is no number -/
theorem adv_non {n p q : Nat} {v : Int32} {B : Nat → Nat} {fb ft : Nat → Int32} (T : TX n B fb ft) (R : RU n B 32 32 p q) (e : ¬ (q < n ∧ 48 ≤ B q ∧ B q ≤ 57)) : ∃ tok bh : Int32, sp_X5_advance (nI n) (nI p) v fb = some (tok, nI q, bh, v) ∧ (tok = 0 ∨ tok = 1 ∨ tok = 3 ∨ tok = 4) ∧ ((q < n ∧ B q = 59) ↔ tok = 3) := by
  by_cases c : q < n
  · by_cases e1 : B q = 59
    · exact ⟨3, _, adv_stop T R c e1, by decide, fun _ => rfl, fun _ => ⟨c, e1⟩⟩
    · by_cases e2 : 97 ≤ B q ∧ B q ≤ 122
      · obtain ⟨r, R2⟩ := RU_of n B 97 122 R.2.1
        exact ⟨1, _, adv_word T R c e2 R2, by decide, fun h => absurd h.2 e1, fun h => absurd h (by decide)⟩
      · exact ⟨4, _, adv_other T R c e1 e2 (fun h => e ⟨c, h⟩), by decide, fun h => absurd h.2 e1, fun h => absurd h (by decide)⟩
  · obtain rfl : q = n := by have := R.2.1; omega
    exact ⟨0, _, adv_end T R, by decide, fun h => absurd h.1 c, fun h => absurd h (by decide)⟩
theorem non_num (lo hi v : Int32) {tok : Int32} (h : tok = 0 ∨ tok = 1 ∨ tok = 3 ∨ tok = 4) : sp_X5_isNumber lo hi tok v = 0 := by
  unfold sp_X5_isNumber
  rcases h with rfl | rfl | rfl | rfl
  · rw [if_neg (by decide)]
  · rw [if_neg (by decide)]
  · rw [if_neg (by decide)]
  · rw [if_neg (by decide)]
/-- a number that must come -/
theorem num_eq {n p p2 q lo hi : Nat} {fa v : Int32} {B : Nat → Nat} {fb ft : Nat → Int32} (T : TX n B fb ft) (R : RU n B 32 32 p q) (R' : RU n B 32 32 p2 q) (hlo : lo ≤ hi) (hhi : hi < 2 ^ 31) : ∃ tok bh v' : Int32, sp_X5_advance (nI n) (nI p) v fb = some (tok, nI q, bh, v') ∧ ((q < n ∧ B q = 59) ↔ tok = 3) ∧
    ((sp_X5_isNumber (nI lo) (nI hi) tok v' = 0 ∧ ∃ (x : Int32) (a : Nat), a ≤ n ∧ sp_X8_number (nI lo) (nI hi) (nI n) (nI p2) 1 fa ft = some (x, nI a, nI q, 0, nI q)) ∨
     (sp_X5_isNumber (nI lo) (nI hi) tok v' = 1 ∧ ∃ x r : Nat, lo ≤ x ∧ x ≤ hi ∧ q < r ∧ r ≤ n ∧ bh = nI r ∧ v' = nI x ∧ sp_X8_number (nI lo) (nI hi) (nI n) (nI p2) 1 fa ft = some (nI x, nI r, nI q, 1, fa))) := by
  have hn := T.1
  by_cases c : q < n ∧ 48 ≤ B q ∧ B q ≤ 57
  · obtain ⟨r, R2⟩ := RU_of n B 48 57 R.2.1
    have hqr : q < r := by
      have h1 := R2.1
      by_cases e : q = r
      · exact absurd (by rw [← e]; exact c) R2.2.2.2
      · omega
    have hrn := R2.2.1
    obtain ⟨z, e1, e2⟩ := num8 T R2
    subst e2
    refine ⟨_, _, _, adv_figs T R c.1 c.2 R2, ⟨fun h => absurd h.2 (by omega), fun h => ?_⟩, ?_⟩
    · by_cases k : 2 < r - q
      · rw [if_pos k] at h; exact absurd h (by decide)
      · rw [if_neg k] at h; exact absurd h (by decide)
    · by_cases k : 2 < r - q
      · refine Or.inl ⟨?_, dgs B q (min 2 (r - q)), r, R2.2.1, ?_⟩
        · rw [if_pos k]; exact non_num _ _ _ (by decide)
        · unfold sp_X8_number
          rw [skips8 T R']
          simp only [Option.bind_some]
          rw [e1]
          simp only [Option.bind_some]
          rw [if_neg (nI_ne0 (by omega) (by omega)), if_pos (show (2 : Int32) < nI (r - q) from nI_lt (a := 2) k (by omega))]
          rfl
      · rw [if_neg k]
        have hm : min 2 (r - q) = r - q := by omega
        rw [hm] at e1
        by_cases i : sp_X8_in (dgs B q (r - q)) (nI lo) (nI hi) = 0
        · refine Or.inl ⟨?_, dgs B q (r - q), r, R2.2.1, ?_⟩
          · unfold sp_X5_isNumber
            rw [if_pos rfl, in_eq, if_pos i]
          · unfold sp_X8_number
            rw [skips8 T R']
            simp only [Option.bind_some]
            rw [e1]
            simp only [Option.bind_some]
            rw [if_neg (nI_ne0 (by omega) (by omega)), if_neg (show ¬ (2 : Int32) < nI (r - q) from nI_nlt (a := 2) (by omega) (by omega)), if_pos i]
            rfl
        · obtain ⟨x, x1, x2, x3⟩ := in_nat i hhi hlo
          refine Or.inr ⟨?_, x, r, x1, x2, hqr, R2.2.1, rfl, x3, ?_⟩
          · unfold sp_X5_isNumber
            rw [if_pos rfl, in_eq, if_neg i]
          · unfold sp_X8_number
            rw [skips8 T R']
            simp only [Option.bind_some]
            rw [e1]
            simp only [Option.bind_some]
            rw [if_neg (nI_ne0 (by omega) (by omega)), if_neg (show ¬ (2 : Int32) < nI (r - q) from nI_nlt (a := 2) (by omega) (by omega)), if_neg i, ← x3]
            rfl
  · obtain ⟨tok, bh, e, h1, h2⟩ := adv_non (v := v) T R c
    refine ⟨tok, bh, v, e, h2, Or.inl ⟨non_num _ _ _ h1, 0, q, R.2.1, ?_⟩⟩
    have R2 : RU n B 48 57 q q := ⟨Nat.le_refl _, R.2.1, fun j a b => absurd b (by omega), c⟩
    obtain ⟨z, e1, e2⟩ := num8 T R2
    subst e2
    rw [Nat.sub_self] at e1
    unfold sp_X8_number
    rw [skips8 T R']
    simp only [Option.bind_some]
    rw [e1]
    simp only [Option.bind_some]
    rw [if_pos (show nI 0 = 0 from rfl)]
    rfl
/-- an end that must come -/
theorem stop_yes {n p p2 q : Nat} {fa v : Int32} {B : Nat → Nat} {fb ft : Nat → Int32} (T : TX n B fb ft) (R : RU n B 32 32 p q) (R' : RU n B 32 32 p2 q) (c : q < n ∧ B q = 59) : sp_X5_takesStop (nI n) (nI p) v fb = some (1, 3, nI q, nI (q + 1), v) ∧ sp_X8_ends (nI n) (nI p2) 1 fa ft = some (nI (q + 1), nI q, 1, fa) := by
  refine ⟨?_, ?_⟩
  · unfold sp_X5_takesStop
    rw [adv_stop T R c.1 c.2]
    rfl
  · unfold sp_X8_ends
    rw [skips8 T R']
    simp only [Option.bind_some]
    rw [look_lt T c.1]
    simp only [Option.bind_some]
    rw [if_pos (show nI (B q) = 59 from by rw [c.2]; rfl)]
    show some (nI q + 1, _) = _
    rw [nI_1]
theorem stop_no {n p p2 q : Nat} {fa v : Int32} {B : Nat → Nat} {fb ft : Nat → Int32} (T : TX n B fb ft) (R : RU n B 32 32 p q) (R' : RU n B 32 32 p2 q) (c : ¬ (q < n ∧ B q = 59)) : (∃ tok bh v' : Int32, sp_X5_takesStop (nI n) (nI p) v fb = some (0, tok, nI q, bh, v')) ∧ sp_X8_ends (nI n) (nI p2) 1 fa ft = some (nI q, nI q, 0, nI q) := by
  refine ⟨?_, ?_⟩
  · obtain ⟨tok, bh, v', e1, e2, _⟩ := num_eq (lo := 0) (hi := 0) (fa := fa) (v := v) T R R' (Nat.le_refl _) (by omega)
    unfold sp_X5_takesStop
    rw [e1]
    simp only [Option.bind_some]
    rw [if_neg (fun h => c (e2.mpr h))]
    exact ⟨_, _, _, rfl⟩
  · unfold sp_X8_ends
    rw [skips8 T R']
    simp only [Option.bind_some]
    by_cases k : q < n
    · rw [look_lt T k]
      simp only [Option.bind_some]
      rw [if_neg (n59 T k (fun h => c ⟨k, h⟩))]
      show some (nI q + 0, _) = _
      rw [Int32.add_zero]
      rfl
    · obtain rfl : q = n := by have := R.2.1; omega
      rw [look_end]
      simp only [Option.bind_some]
      rw [if_neg (show ¬ (-1 : Int32) = 59 from by decide)]
      show some (nI q + 0, _) = _
      rw [Int32.add_zero]
      rfl
/-- the letters of the five words -/
def wch (w j : Nat) : Nat := (([[116, 111, 119, 110], [112, 117, 108, 108, 115], [98, 117, 105, 108, 100], [115, 116, 114, 105, 110, 103], [121, 101, 97, 114, 115]] : List (List Nat)).getD w []).getD j 0
theorem wch_lt : ∀ w : Nat, w < 5 → ∀ j : Nat, j < 6 → wch w j < 128 := by decide +kernel
theorem ch_eq : ∀ w : Nat, w < 5 → ∀ j : Nat, j < 6 → chJ w (nI j) = nI (wch w j) := by decide +kernel
def mt (B : Nat → Nat) (q L w : Nat) : Prop := L = lnJ w ∧ ∀ j : Nat, j < L → B (q + j) = wch w j
theorem isW {n q w : Nat} {B : Nat → Nat} {fb ft : Nat → Int32} (T : TX n B fb ft) (hw : w < 5) (hL : lnJ w ≤ 6) (hq : q + lnJ w ≤ n) : ∃ r : Int32, lp_X5_isWord_28 w (nI q) fb FU 0 = some r ∧ ((r = 1 ∧ ∀ j : Nat, j < lnJ w → B (q + j) = wch w j) ∨ (r = 0 ∧ ¬ ∀ j : Nat, j < lnJ w → B (q + j) = wch w j)) := by
  have hn := T.1
  exact lk1 (L := fun fu (x : Int32) => lp_X5_isWord_28 w (nI q) fb fu x)
    (fun d x => ∃ j : Nat, j + d = lnJ w ∧ x = nI j ∧ ∀ i : Nat, i < j → B (q + i) = wch w i) (fun r => (r = 1 ∧ ∀ j : Nat, j < lnJ w → B (q + j) = wch w j) ∨ (r = 0 ∧ ¬ ∀ j : Nat, j < lnJ w → B (q + j) = wch w j)) (by
    rintro d fu x hd ⟨j, hj, rfl, hs⟩
    rw [lp_X5_isWord_28]
    cases d with
    | zero =>
      have hj : j = lnJ w := by omega
      rw [if_pos (show Int32.ofNat (lnJ w) ≤ nI j from by rw [hj]; exact Int32.le_refl _)]
      exact Or.inl ⟨_, rfl, Or.inl ⟨rfl, by rw [← hj]; exact hs⟩⟩
    | succ d =>
      rw [if_neg (show ¬ Int32.ofNat (lnJ w) ≤ nI j from nI_ge (by omega) (by omega)), gi_n (by omega) (by omega), nI_add, at_n (by omega) (by omega), (T.2 (q + j) (by omega)).1, ch_eq w hw j (by omega), nI_1]
      have h1 := (T.2 (q + j) (by omega)).2.2
      have h2 := wch_lt w hw j (by omega)
      by_cases c : B (q + j) = wch w j
      · rw [if_pos (by rw [c])]
        refine Or.inr ⟨d, _, rfl, rfl, j + 1, by omega, rfl, fun i hi => ?_⟩
        by_cases e : i = j
        · rw [e]; exact c
        · exact hs i (by omega)
      · rw [if_neg (fun h => c ((nI_eq (by omega) (by omega)).mp h))]
        exact Or.inl ⟨_, rfl, Or.inr ⟨rfl, fun h => c (h j (by omega))⟩⟩) (lnJ w) FU (nI 0) (by rw [FU_eq]; omega) ⟨0, by omega, rfl, fun i hi => absurd hi (by omega)⟩
theorem ln6 : ∀ w : Nat, w < 5 → lnJ w ≤ 6 ∧ 4 ≤ lnJ w := by decide
theorem isWord_eq {n q r w : Nat} {B : Nat → Nat} {fb ft : Nat → Int32} (T : TX n B fb ft) (hw : w < 5) (h1 : q ≤ r) (h2 : r ≤ n) : (mt B q (r - q) w → sp_X5_isWord w 1 (nI q) (nI r) fb = some 1) ∧ (¬ mt B q (r - q) w → sp_X5_isWord w 1 (nI q) (nI r) fb = some 0) := by
  have hn := T.1
  have hl := ln6 w hw
  unfold sp_X5_isWord
  rw [if_pos rfl, pk_sub h1]
  by_cases c : r - q = lnJ w
  · rw [if_pos (show nI (r - q) = Int32.ofNat (lnJ w) from by rw [c]; rfl)]
    obtain ⟨x, e1, e2⟩ := isW (q := q) T hw hl.1 (by omega)
    rw [e1]
    refine ⟨fun h => ?_, fun h => ?_⟩
    · rcases e2 with ⟨rfl, _⟩ | ⟨_, e⟩
      · rfl
      · exact absurd (by rw [← c]; exact h.2) e
    · rcases e2 with ⟨_, e⟩ | ⟨rfl, _⟩
      · exact absurd (⟨c, by rw [c]; exact e⟩ : mt B q (r - q) w) h
      · rfl
  · rw [if_neg (show ¬ nI (r - q) = Int32.ofNat (lnJ w) from fun h => c ((nI_eq (by omega) (by omega)).mp h))]
    exact ⟨fun h => absurd h.1 c, fun _ => rfl⟩
theorem isWord_non {w : Nat} {tok a b : Int32} {fb : Nat → Int32} (h : ¬ tok = 1) : sp_X5_isWord w tok a b fb = some 0 := by
  unfold sp_X5_isWord
  rw [if_neg h]
theorem kT : sp_X8_hashed 19 14 22 13 = nI 343993 := by decide
theorem kP : (26 : Int32) * sp_X8_hashed 15 20 11 11 + 115 - 97 = nI 7213900 := by decide
theorem kB : (26 : Int32) * sp_X8_hashed 1 20 8 11 + 100 - 97 = nI 814193 := by decide
theorem kS : (676 : Int32) * sp_X8_hashed 18 19 17 8 + 338 + 103 - 97 = nI 222851856 := by decide
theorem kY : (26 : Int32) * sp_X8_hashed 24 4 0 17 + 115 - 97 = nI 11038188 := by decide
theorem itemBy4 (x : Int32) : sp_X8_itemBy x 4 = if x = nI 343993 then 1 else 0 := by
  unfold sp_X8_itemBy
  simp only [show ((4 : Int32) = 4) = True from eq_true rfl, show ((4 : Int32) = 5) = False from eq_false (by decide), show ((4 : Int32) = 6) = False from eq_false (by decide), if_true, if_false, kT]
theorem itemBy5 (x : Int32) : sp_X8_itemBy x 5 = if x = nI 7213900 then 2 else if x = nI 814193 then 3 else if x = nI 11038188 then 5 else 0 := by
  unfold sp_X8_itemBy
  simp only [show ((5 : Int32) = 4) = False from eq_false (by decide), show ((5 : Int32) = 5) = True from eq_true rfl, show ((5 : Int32) = 6) = False from eq_false (by decide), if_true, if_false, kP, kB, kY]
theorem itemBy6 (x : Int32) : sp_X8_itemBy x 6 = if x = nI 222851856 then 4 else 0 := by
  unfold sp_X8_itemBy
  simp only [show ((6 : Int32) = 4) = False from eq_false (by decide), show ((6 : Int32) = 5) = False from eq_false (by decide), show ((6 : Int32) = 6) = True from eq_true rfl, if_true, if_false, kS]
theorem itemByN {x y : Int32} (h4 : ¬ y = 4) (h5 : ¬ y = 5) (h6 : ¬ y = 6) : sp_X8_itemBy x y = 0 := by
  unfold sp_X8_itemBy
  simp only [eq_false h4, eq_false h5, eq_false h6, if_false]
theorem hs_0 {B : Nat → Nat} {q : Nat} (h : ∀ j : Nat, j < 4 → 97 ≤ B (q + j) ∧ B (q + j) ≤ 122) : (hsh B q 4 = 343993 ↔ mt B q 4 0) ∧ hsh B q 4 < 2 ^ 31 := by
  have a0 := h 0 (by omega)
  have a1 := h 1 (by omega)
  have a2 := h 2 (by omega)
  have a3 := h 3 (by omega)
  have e : mt B q 4 0 ↔ (B (q + 0) = 116 ∧ B (q + 1) = 111 ∧ B (q + 2) = 119 ∧ B (q + 3) = 110) := ⟨fun m => ⟨m.2 0 (by omega), m.2 1 (by omega), m.2 2 (by omega), m.2 3 (by omega)⟩, fun m => ⟨rfl, fun j hj => by
    have hc : j = 0 ∨ j = 1 ∨ j = 2 ∨ j = 3 := by omega
    rcases hc with rfl | rfl | rfl | rfl
    · exact m.1
    · exact m.2.1
    · exact m.2.2.1
    · exact m.2.2.2⟩⟩
  rw [e]
  simp only [hsh]
  omega
theorem hs_1 {B : Nat → Nat} {q : Nat} (h : ∀ j : Nat, j < 5 → 97 ≤ B (q + j) ∧ B (q + j) ≤ 122) : (hsh B q 5 = 7213900 ↔ mt B q 5 1) ∧ hsh B q 5 < 2 ^ 31 := by
  have a0 := h 0 (by omega)
  have a1 := h 1 (by omega)
  have a2 := h 2 (by omega)
  have a3 := h 3 (by omega)
  have a4 := h 4 (by omega)
  have e : mt B q 5 1 ↔ (B (q + 0) = 112 ∧ B (q + 1) = 117 ∧ B (q + 2) = 108 ∧ B (q + 3) = 108 ∧ B (q + 4) = 115) := ⟨fun m => ⟨m.2 0 (by omega), m.2 1 (by omega), m.2 2 (by omega), m.2 3 (by omega), m.2 4 (by omega)⟩, fun m => ⟨rfl, fun j hj => by
    have hc : j = 0 ∨ j = 1 ∨ j = 2 ∨ j = 3 ∨ j = 4 := by omega
    rcases hc with rfl | rfl | rfl | rfl | rfl
    · exact m.1
    · exact m.2.1
    · exact m.2.2.1
    · exact m.2.2.2.1
    · exact m.2.2.2.2⟩⟩
  rw [e]
  simp only [hsh]
  omega
theorem hs_2 {B : Nat → Nat} {q : Nat} (h : ∀ j : Nat, j < 5 → 97 ≤ B (q + j) ∧ B (q + j) ≤ 122) : (hsh B q 5 = 814193 ↔ mt B q 5 2) ∧ hsh B q 5 < 2 ^ 31 := by
  have a0 := h 0 (by omega)
  have a1 := h 1 (by omega)
  have a2 := h 2 (by omega)
  have a3 := h 3 (by omega)
  have a4 := h 4 (by omega)
  have e : mt B q 5 2 ↔ (B (q + 0) = 98 ∧ B (q + 1) = 117 ∧ B (q + 2) = 105 ∧ B (q + 3) = 108 ∧ B (q + 4) = 100) := ⟨fun m => ⟨m.2 0 (by omega), m.2 1 (by omega), m.2 2 (by omega), m.2 3 (by omega), m.2 4 (by omega)⟩, fun m => ⟨rfl, fun j hj => by
    have hc : j = 0 ∨ j = 1 ∨ j = 2 ∨ j = 3 ∨ j = 4 := by omega
    rcases hc with rfl | rfl | rfl | rfl | rfl
    · exact m.1
    · exact m.2.1
    · exact m.2.2.1
    · exact m.2.2.2.1
    · exact m.2.2.2.2⟩⟩
  rw [e]
  simp only [hsh]
  omega
theorem hs_3 {B : Nat → Nat} {q : Nat} (h : ∀ j : Nat, j < 6 → 97 ≤ B (q + j) ∧ B (q + j) ≤ 122) : (hsh B q 6 = 222851856 ↔ mt B q 6 3) ∧ hsh B q 6 < 2 ^ 31 := by
  have a0 := h 0 (by omega)
  have a1 := h 1 (by omega)
  have a2 := h 2 (by omega)
  have a3 := h 3 (by omega)
  have a4 := h 4 (by omega)
  have a5 := h 5 (by omega)
  have e : mt B q 6 3 ↔ (B (q + 0) = 115 ∧ B (q + 1) = 116 ∧ B (q + 2) = 114 ∧ B (q + 3) = 105 ∧ B (q + 4) = 110 ∧ B (q + 5) = 103) := ⟨fun m => ⟨m.2 0 (by omega), m.2 1 (by omega), m.2 2 (by omega), m.2 3 (by omega), m.2 4 (by omega), m.2 5 (by omega)⟩, fun m => ⟨rfl, fun j hj => by
    have hc : j = 0 ∨ j = 1 ∨ j = 2 ∨ j = 3 ∨ j = 4 ∨ j = 5 := by omega
    rcases hc with rfl | rfl | rfl | rfl | rfl | rfl
    · exact m.1
    · exact m.2.1
    · exact m.2.2.1
    · exact m.2.2.2.1
    · exact m.2.2.2.2.1
    · exact m.2.2.2.2.2⟩⟩
  rw [e]
  simp only [hsh]
  omega
theorem hs_4 {B : Nat → Nat} {q : Nat} (h : ∀ j : Nat, j < 5 → 97 ≤ B (q + j) ∧ B (q + j) ≤ 122) : (hsh B q 5 = 11038188 ↔ mt B q 5 4) ∧ hsh B q 5 < 2 ^ 31 := by
  have a0 := h 0 (by omega)
  have a1 := h 1 (by omega)
  have a2 := h 2 (by omega)
  have a3 := h 3 (by omega)
  have a4 := h 4 (by omega)
  have e : mt B q 5 4 ↔ (B (q + 0) = 121 ∧ B (q + 1) = 101 ∧ B (q + 2) = 97 ∧ B (q + 3) = 114 ∧ B (q + 4) = 115) := ⟨fun m => ⟨m.2 0 (by omega), m.2 1 (by omega), m.2 2 (by omega), m.2 3 (by omega), m.2 4 (by omega)⟩, fun m => ⟨rfl, fun j hj => by
    have hc : j = 0 ∨ j = 1 ∨ j = 2 ∨ j = 3 ∨ j = 4 := by omega
    rcases hc with rfl | rfl | rfl | rfl | rfl
    · exact m.1
    · exact m.2.1
    · exact m.2.2.1
    · exact m.2.2.2.1
    · exact m.2.2.2.2⟩⟩
  rw [e]
  simp only [hsh]
  omega
theorem mt_len {B : Nat → Nat} {q L w : Nat} (h : L ≠ lnJ w) : ¬ mt B q L w := fun m => h m.1
/-- the item that a word begins, in both pictures -/
theorem item8 {B : Nat → Nat} {q L : Nat} {x : Int32} (h : ∀ j : Nat, j < L → 97 ≤ B (q + j) ∧ B (q + j) ≤ 122) (hL : L < 2 ^ 31) (hx : L ≤ 6 → x = nI (hsh B q L)) : ∃ c : Nat, c ≤ 5 ∧ sp_X8_itemBy x (nI L) = nI c ∧ ∀ w : Nat, w < 5 → (c = w + 1 ↔ mt B q L w) := by
  have l0 : lnJ 0 = 4 := rfl
  have l1 : lnJ 1 = 5 := rfl
  have l2 : lnJ 2 = 5 := rfl
  have l3 : lnJ 3 = 6 := rfl
  have l4 : lnJ 4 = 5 := rfl
  by_cases c4 : L = 4
  · subst c4
    rw [hx (by omega)]
    have g := hs_0 h
    have e := itemBy4 (nI (hsh B q 4))
    by_cases k : hsh B q 4 = 343993
    · rw [if_pos (by rw [k])] at e
      refine ⟨1, by omega, e, fun w hw => ?_⟩
      have hc : w = 0 ∨ w = 1 ∨ w = 2 ∨ w = 3 ∨ w = 4 := by omega
      rcases hc with rfl | rfl | rfl | rfl | rfl
      · exact ⟨fun _ => g.1.mp k, fun _ => rfl⟩
      all_goals exact ⟨fun q => absurd q (by omega), fun m => absurd m (mt_len (by omega))⟩
    · rw [if_neg (fun q => k ((nI_eq g.2 (by omega)).mp q))] at e
      refine ⟨0, by omega, e, fun w hw => ?_⟩
      have hc : w = 0 ∨ w = 1 ∨ w = 2 ∨ w = 3 ∨ w = 4 := by omega
      rcases hc with rfl | rfl | rfl | rfl | rfl
      · exact ⟨fun q => absurd q (by omega), fun m => absurd (g.1.mpr m) k⟩
      all_goals exact ⟨fun q => absurd q (by omega), fun m => absurd m (mt_len (by omega))⟩
  · by_cases c5 : L = 5
    · subst c5
      rw [hx (by omega)]
      have g1 := hs_1 h
      have g2 := hs_2 h
      have g4 := hs_4 h
      have e := itemBy5 (nI (hsh B q 5))
      by_cases k1 : hsh B q 5 = 7213900
      · rw [if_pos (by rw [k1])] at e
        refine ⟨2, by omega, e, fun w hw => ?_⟩
        have hc : w = 1 ∨ w = 2 ∨ w = 4 ∨ w = 0 ∨ w = 3 := by omega
        rcases hc with rfl | rfl | rfl | rfl | rfl
        · exact ⟨fun _ => g1.1.mp k1, fun _ => rfl⟩
        · exact ⟨fun q => absurd q (by omega), fun m => absurd (g2.1.mpr m) (by omega)⟩
        · exact ⟨fun q => absurd q (by omega), fun m => absurd (g4.1.mpr m) (by omega)⟩
        all_goals exact ⟨fun q => absurd q (by omega), fun m => absurd m (mt_len (by omega))⟩
      · rw [if_neg (fun q => k1 ((nI_eq g1.2 (by omega)).mp q))] at e
        by_cases k2 : hsh B q 5 = 814193
        · rw [if_pos (by rw [k2])] at e
          refine ⟨3, by omega, e, fun w hw => ?_⟩
          have hc : w = 1 ∨ w = 2 ∨ w = 4 ∨ w = 0 ∨ w = 3 := by omega
          rcases hc with rfl | rfl | rfl | rfl | rfl
          · exact ⟨fun q => absurd q (by omega), fun m => absurd (g1.1.mpr m) (by omega)⟩
          · exact ⟨fun _ => g2.1.mp k2, fun _ => rfl⟩
          · exact ⟨fun q => absurd q (by omega), fun m => absurd (g4.1.mpr m) (by omega)⟩
          all_goals exact ⟨fun q => absurd q (by omega), fun m => absurd m (mt_len (by omega))⟩
        · rw [if_neg (fun q => k2 ((nI_eq g1.2 (by omega)).mp q))] at e
          by_cases k4 : hsh B q 5 = 11038188
          · rw [if_pos (by rw [k4])] at e
            refine ⟨5, by omega, e, fun w hw => ?_⟩
            have hc : w = 1 ∨ w = 2 ∨ w = 4 ∨ w = 0 ∨ w = 3 := by omega
            rcases hc with rfl | rfl | rfl | rfl | rfl
            · exact ⟨fun q => absurd q (by omega), fun m => absurd (g1.1.mpr m) (by omega)⟩
            · exact ⟨fun q => absurd q (by omega), fun m => absurd (g2.1.mpr m) (by omega)⟩
            · exact ⟨fun _ => g4.1.mp k4, fun _ => rfl⟩
            all_goals exact ⟨fun q => absurd q (by omega), fun m => absurd m (mt_len (by omega))⟩
          · rw [if_neg (fun q => k4 ((nI_eq g1.2 (by omega)).mp q))] at e
            refine ⟨0, by omega, e, fun w hw => ?_⟩
            have hc : w = 1 ∨ w = 2 ∨ w = 4 ∨ w = 0 ∨ w = 3 := by omega
            rcases hc with rfl | rfl | rfl | rfl | rfl
            · exact ⟨fun q => absurd q (by omega), fun m => absurd (g1.1.mpr m) k1⟩
            · exact ⟨fun q => absurd q (by omega), fun m => absurd (g2.1.mpr m) k2⟩
            · exact ⟨fun q => absurd q (by omega), fun m => absurd (g4.1.mpr m) k4⟩
            all_goals exact ⟨fun q => absurd q (by omega), fun m => absurd m (mt_len (by omega))⟩
    · by_cases c6 : L = 6
      · subst c6
        rw [hx (by omega)]
        have g := hs_3 h
        have e := itemBy6 (nI (hsh B q 6))
        by_cases k : hsh B q 6 = 222851856
        · rw [if_pos (by rw [k])] at e
          refine ⟨4, by omega, e, fun w hw => ?_⟩
          have hc : w = 3 ∨ w = 0 ∨ w = 1 ∨ w = 2 ∨ w = 4 := by omega
          rcases hc with rfl | rfl | rfl | rfl | rfl
          · exact ⟨fun _ => g.1.mp k, fun _ => rfl⟩
          all_goals exact ⟨fun q => absurd q (by omega), fun m => absurd m (mt_len (by omega))⟩
        · rw [if_neg (fun q => k ((nI_eq g.2 (by omega)).mp q))] at e
          refine ⟨0, by omega, e, fun w hw => ?_⟩
          have hc : w = 3 ∨ w = 0 ∨ w = 1 ∨ w = 2 ∨ w = 4 := by omega
          rcases hc with rfl | rfl | rfl | rfl | rfl
          · exact ⟨fun q => absurd q (by omega), fun m => absurd (g.1.mpr m) k⟩
          all_goals exact ⟨fun q => absurd q (by omega), fun m => absurd m (mt_len (by omega))⟩
      · refine ⟨0, by omega, itemByN (fun q => c4 ((nI_eq (b := 4) hL (by omega)).mp q)) (fun q => c5 ((nI_eq (b := 5) hL (by omega)).mp q)) (fun q => c6 ((nI_eq (b := 6) hL (by omega)).mp q)), fun w hw => ?_⟩
        have hc : w = 0 ∨ w = 1 ∨ w = 2 ∨ w = 3 ∨ w = 4 := by omega
        rcases hc with rfl | rfl | rfl | rfl | rfl
        all_goals exact ⟨fun q => absurd q (by omega), fun m => absurd m (mt_len (by omega))⟩
/-- the word that an item begins with, in both pictures -/
theorem item_eq {n p p2 q : Nat} {v : Int32} {B : Nat → Nat} {fb ft : Nat → Int32} (T : TX n B fb ft) (R : RU n B 32 32 p q) (R' : RU n B 32 32 p2 q) : ∃ (tok bh v' x : Int32) (r c : Nat), sp_X5_advance (nI n) (nI p) v fb = some (tok, nI q, bh, v') ∧ (tok = 0 ↔ q = n) ∧ sp_X8_word (nI n) (nI p2) ft = some (x, nI r, nI q) ∧ q ≤ r ∧ r ≤ n ∧ c ≤ 5 ∧ sp_X8_itemBy x (nI r - nI q) = nI c ∧ (c ≠ 0 → q < r ∧ bh = nI r) ∧ ∀ w : Nat, w < 5 → sp_X5_isWord w tok (nI q) bh fb = some (if c = w + 1 then 1 else 0) := by
  have hn := T.1
  by_cases k : q < n ∧ 97 ≤ B q ∧ B q ≤ 122
  · obtain ⟨r, R2⟩ := RU_of n B 97 122 R.2.1
    have hqr : q < r := by
      have h1 := R2.1
      by_cases e : q = r
      · exact absurd (by rw [← e]; exact k) R2.2.2.2
      · omega
    obtain ⟨c, c5, c1, c2⟩ := item8 (B := B) (q := q) (L := r - q) (x := if 6 < r - q then -1 else if r - q = 0 then -1 else nI (hsh B q (r - q))) (fun j hj => R2.2.2.1 (q + j) (by omega) (by omega)) (by have := R2.2.1; omega) (fun h6 => by rw [if_neg (by omega), if_neg (by omega)])
    refine ⟨1, nI r, v, _, r, c, adv_word T R k.1 k.2 R2, ⟨fun h => absurd h (by decide), fun h => by omega⟩, word8 T R' R2, R2.1, R2.2.1, c5, by rw [pk_sub R2.1]; exact c1, fun _ => ⟨hqr, rfl⟩, fun w hw => ?_⟩
    have hw2 := isWord_eq (w := w) T hw R2.1 R2.2.1
    by_cases g : c = w + 1
    · rw [if_pos g]; exact hw2.1 ((c2 w hw).mp g)
    · rw [if_neg g]; exact hw2.2 (fun m => g ((c2 w hw).mpr m))
  · have R2 : RU n B 97 122 q q := ⟨Nat.le_refl _, R.2.1, fun j a b => absurd b (by omega), k⟩
    obtain ⟨tok, bh, v', e1, e2, e3⟩ : ∃ tok bh v' : Int32, sp_X5_advance (nI n) (nI p) v fb = some (tok, nI q, bh, v') ∧ (tok = 0 ↔ q = n) ∧ ¬ tok = 1 := by
      by_cases c : q < n
      · by_cases f1 : 48 ≤ B q ∧ B q ≤ 57
        · obtain ⟨r, R3⟩ := RU_of n B 48 57 R.2.1
          refine ⟨_, _, _, adv_figs T R c f1 R3, ?_, ?_⟩
          · split
            · exact ⟨fun h => absurd h (by decide), fun h => by omega⟩
            · exact ⟨fun h => absurd h (by decide), fun h => by omega⟩
          · split <;> decide
        · by_cases f2 : B q = 59
          · exact ⟨_, _, _, adv_stop T R c f2, ⟨fun h => absurd h (by decide), fun h => by omega⟩, by decide⟩
          · exact ⟨_, _, _, adv_other T R c f2 (fun h => k ⟨c, h⟩) f1, ⟨fun h => absurd h (by decide), fun h => by omega⟩, by decide⟩
      · obtain rfl : q = n := by have := R.2.1; omega
        exact ⟨_, _, _, adv_end T R, ⟨fun _ => rfl, fun _ => rfl⟩, by decide⟩
    refine ⟨tok, bh, v', -1, q, 0, e1, e2, ?_, Nat.le_refl _, R.2.1, by omega, ?_, fun h => absurd rfl h, fun w hw => ?_⟩
    · have := word8 T R' R2
      rw [Nat.sub_self, if_neg (by omega), if_pos rfl] at this
      exact this
    · rw [pk_sub (Nat.le_refl q), Nat.sub_self]
      exact itemByN (by decide) (by decide) (by decide)
    · rw [isWord_non e3, if_neg (by omega)]
