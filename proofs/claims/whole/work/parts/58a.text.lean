/-! pure: a text's tokens, in both pictures -/
/-- a text of n bytes -/
def TX (n : Nat) (B : Nat → Nat) (fb ft : Nat → Int32) : Prop := n ≤ 150 ∧ ∀ j : Nat, j < n → fb j = nI (B j) ∧ ft j = nI (B j) ∧ B j ≤ 127
/-- a run of bytes from p on, up to q -/
def RU (n : Nat) (B : Nat → Nat) (lo hi p q : Nat) : Prop := p ≤ q ∧ q ≤ n ∧ (∀ j : Nat, p ≤ j → j < q → lo ≤ B j ∧ B j ≤ hi) ∧ ¬ (q < n ∧ lo ≤ B q ∧ B q ≤ hi)
theorem RU_ex (n : Nat) (B : Nat → Nat) (lo hi : Nat) : ∀ d p : Nat, p + d = n → ∃ q : Nat, RU n B lo hi p q
  | 0, p, h => ⟨p, Nat.le_refl _, by omega, fun j a b => absurd b (by omega), fun q => absurd q.1 (by omega)⟩
  | d + 1, p, h => by
    by_cases c : lo ≤ B p ∧ B p ≤ hi
    · obtain ⟨q, q1, q2, q3, q4⟩ := RU_ex n B lo hi d (p + 1) (by omega)
      refine ⟨q, by omega, q2, fun j a b => ?_, q4⟩
      by_cases e : j = p
      · rw [e]; exact c
      · exact q3 j (by omega) b
    · exact ⟨p, Nat.le_refl _, by omega, fun j a b => absurd b (by omega), fun q => c q.2⟩
theorem RU_of (n : Nat) (B : Nat → Nat) (lo hi : Nat) {p : Nat} (h : p ≤ n) : ∃ q : Nat, RU n B lo hi p q := RU_ex n B lo hi (n - p) p (by omega)
theorem RU.end {n : Nat} {B : Nat → Nat} {lo hi p q : Nat} (R : RU n B lo hi p q) : RU n B lo hi q q := ⟨Nat.le_refl _, R.2.1, fun j a b => absurd b (by omega), R.2.2.2⟩
theorem in_if {b lo hi : Nat} (hb : b < 2 ^ 31) (hlo : lo ≤ hi) (hhi : hi < 2 ^ 31) : sp_X8_in (nI b) (nI lo) (nI hi) = if lo ≤ b ∧ b ≤ hi then 1 else 0 := by
  by_cases c : lo ≤ b ∧ b ≤ hi
  · rw [if_pos c]; exact in_yes c.1 c.2 hhi
  · rw [if_neg c]
    by_cases e : sp_X8_in (nI b) (nI lo) (nI hi) = 0
    · exact e
    · obtain ⟨m, m1, m2, m3⟩ := in_nat e hhi hlo
      have := (nI_eq hb (by omega)).mp m3
      exact absurd ⟨by omega, by omega⟩ c
theorem in_no {b lo hi : Nat} (hb : b < 2 ^ 31) (hlo : lo ≤ hi) (hhi : hi < 2 ^ 31) (c : ¬ (lo ≤ b ∧ b ≤ hi)) : sp_X8_in (nI b) (nI lo) (nI hi) = 0 := by
  rw [in_if hb hlo hhi, if_neg c]
theorem run7 {n lo hi p q : Nat} {B : Nat → Nat} {fb ft : Nat → Int32} (T : TX n B fb ft) (R : RU n B lo hi p q) (hlo : lo ≤ hi) (hhi : hi < 2 ^ 31) : sp_X5_behindRun (nI p) (nI lo) (nI hi) (nI n) fb = some (nI q) := by
  obtain ⟨r1, r2, r3, r4⟩ := R
  have hn := T.1
  obtain ⟨r, e1, e2⟩ := lk1 (L := fun fu (x : Int32) => lp_X5_behindRun_3 (nI lo) (nI hi) (nI n) fb fu x)
    (fun d x => ∃ j : Nat, j + d = q ∧ p ≤ j ∧ x = nI j) (fun r => r = nI q) (by
    rintro d fu x hd ⟨j, hj, hp, rfl⟩
    rw [lp_X5_behindRun_3]
    cases d with
    | zero =>
      obtain rfl : j = q := by omega
      by_cases c : j < n
      · rw [if_neg (nI_ge c (by omega)), at_n (by omega) (by omega), (T.2 j c).1, in_eq, in_if (by have := (T.2 j c).2.2; omega) hlo hhi, if_neg (show ¬ (lo ≤ B j ∧ B j ≤ hi) from fun h => r4 ⟨c, h⟩), if_pos rfl]
        exact Or.inl ⟨_, rfl, rfl⟩
      · rw [if_pos (nI_le (by omega) (by omega))]
        exact Or.inl ⟨_, rfl, rfl⟩
    | succ d =>
      have c : j < n := by omega
      rw [if_neg (nI_ge c (by omega)), at_n (by omega) (by omega), (T.2 j c).1, in_eq, in_if (by have := (T.2 j c).2.2; omega) hlo hhi, if_pos (r3 j hp (by omega)), if_neg (show ¬ (1 : Int32) = 0 from by decide), nI_1]
      exact Or.inr ⟨d, _, rfl, rfl, j + 1, by omega, by omega, rfl⟩) (q - p) FU (nI p) (by rw [FU_eq]; omega) ⟨p, by omega, Nat.le_refl _, rfl⟩
  have e1 : lp_X5_behindRun_3 (nI lo) (nI hi) (nI n) fb FU (nI p) = some r := e1
  unfold sp_X5_behindRun
  rw [e1, e2]; rfl
theorem look_lt {n p : Nat} {B : Nat → Nat} {fb ft : Nat → Int32} (T : TX n B fb ft) (h : p < n) : sp_X8_look (nI n) (nI p) ft = some (nI (B p)) := by
  have hn := T.1
  unfold sp_X8_look
  rw [if_neg (nI_ge h (by omega)), gi_n (by omega) (by omega), nI_clamp (by omega), (T.2 p h).2.1]
theorem look_end {n : Nat} {ft : Nat → Int32} : sp_X8_look (nI n) (nI n) ft = some (-1) := by
  unfold sp_X8_look
  rw [if_pos (Int32.le_refl _)]
theorem skips8 {n p q : Nat} {B : Nat → Nat} {fb ft : Nat → Int32} (T : TX n B fb ft) (R : RU n B 32 32 p q) : sp_X8_skips (nI n) (nI p) ft = some (nI q, nI q) := by
  obtain ⟨r1, r2, r3, r4⟩ := R
  have hn := T.1
  obtain ⟨r, e1, e2⟩ := lk1 (L := fun fu (x : Int32) => lp_X8_skips_0 (nI n) ft fu x)
    (fun d x => ∃ j : Nat, j + d = q ∧ p ≤ j ∧ x = nI j) (fun r => r = nI q) (by
    rintro d fu x hd ⟨j, hj, hp, rfl⟩
    rw [lp_X8_skips_0]
    cases d with
    | zero =>
      obtain rfl : j = q := by omega
      by_cases c : j < n
      · rw [look_lt T c]
        simp only [Option.bind_some]
        rw [if_neg (show ¬ nI (B j) = 32 from fun h => r4 ⟨c, by
          have := (nI_eq (b := 32) (by have := (T.2 j c).2.2; omega) (by omega)).mp h
          omega⟩)]
        exact Or.inl ⟨_, rfl, rfl⟩
      · obtain rfl : j = n := by omega
        rw [look_end]
        simp only [Option.bind_some]
        rw [if_neg (show ¬ (-1 : Int32) = 32 from by decide)]
        exact Or.inl ⟨_, rfl, rfl⟩
    | succ d =>
      have c : j < n := by omega
      have h32 := r3 j hp (by omega)
      rw [look_lt T c]
      simp only [Option.bind_some]
      rw [if_pos (show nI (B j) = 32 from by rw [show B j = 32 by omega]; rfl), nI_1]
      exact Or.inr ⟨d, _, rfl, rfl, j + 1, by omega, by omega, rfl⟩) (q - p) FU (nI p) (by rw [FU_eq]; omega) ⟨p, by omega, Nat.le_refl _, rfl⟩
  have e1 : lp_X8_skips_0 (nI n) ft FU (nI p) = some r := e1
  unfold sp_X8_skips
  rw [e1, e2]; rfl
/-- k letters from q on, as one number -/
def hsh (B : Nat → Nat) (q : Nat) : Nat → Nat
  | 0 => 0
  | k + 1 => 26 * hsh B q k + (B (q + k) - 97)
theorem word8 {n p q r : Nat} {B : Nat → Nat} {fb ft : Nat → Int32} (T : TX n B fb ft) (R : RU n B 32 32 p q) (R2 : RU n B 97 122 q r) : sp_X8_word (nI n) (nI p) ft = some (if 6 < r - q then -1 else if r - q = 0 then -1 else nI (hsh B q (r - q)), nI r, nI q) := by
  obtain ⟨r1, r2, r3, r4⟩ := R2
  have hn := T.1
  obtain ⟨z, e1, e2⟩ := lk1 (L := fun fu (x : Int32 × Int32 × Int32) => lp_X8_word_8 (nI n) ft fu x.1 x.2.1 x.2.2)
    (fun d x => ∃ j : Nat, j + d = r - q ∧ x = (nI (hsh B q (min 6 j)), nI j, nI (q + j))) (fun z => z = (nI (hsh B q (min 6 (r - q))), nI (r - q), nI r)) (by
    rintro d fu x hd ⟨j, hj, rfl⟩
    dsimp only
    rw [lp_X8_word_8]
    cases d with
    | zero =>
      obtain rfl : j = r - q := by omega
      rw [show q + (r - q) = r by omega]
      by_cases c : r < n
      · rw [look_lt T c]
        simp only [Option.bind_some]
        rw [show sp_X8_in (nI (B r)) 97 122 = 0 from in_no (lo := 97) (hi := 122) (by have := (T.2 r c).2.2; omega) (by omega) (by omega) (fun h => r4 ⟨c, h⟩), if_pos rfl]
        exact Or.inl ⟨_, rfl, rfl⟩
      · obtain rfl : r = n := by omega
        rw [look_end]
        simp only [Option.bind_some]
        rw [if_pos (show sp_X8_in (-1) 97 122 = 0 from by decide)]
        exact Or.inl ⟨_, rfl, rfl⟩
    | succ d =>
      have c : q + j < n := by omega
      have h97 := r3 (q + j) (by omega) (by omega)
      rw [look_lt T c]
      simp only [Option.bind_some]
      rw [show sp_X8_in (nI (B (q + j))) 97 122 = 1 from in_yes (lo := 97) (hi := 122) h97.1 h97.2 (by omega), if_neg (show ¬ (1 : Int32) = 0 from by decide), nI_1, nI_1]
      by_cases c6 : 6 ≤ j
      · rw [if_pos (show (6 : Int32) ≤ nI j from nI_le c6 (by omega))]
        simp only [Option.bind_some]
        exact Or.inr ⟨d, (_, _, _), rfl, rfl, j + 1, by omega, by rw [show min 6 (j + 1) = min 6 j by omega]; rfl⟩
      · rw [if_neg (show ¬ (6 : Int32) ≤ nI j from nI_ge (b := 6) (by omega) (by omega))]
        have ev : (26 : Int32) * nI (hsh B q (min 6 j)) + nI (B (q + j)) - 97 = nI (hsh B q (min 6 (j + 1))) := by
          rw [show min 6 (j + 1) = j + 1 by omega, show min 6 j = j by omega, show (26 : Int32) * nI (hsh B q j) = nI (26 * hsh B q j) from pk_mul 26 _, nI_add]
          show nI (26 * hsh B q j + B (q + j)) - nI 97 = nI (26 * hsh B q j + (B (q + j) - 97))
          rw [pk_sub (by omega)]
          congr 1
          omega
        simp only [Option.bind_some]
        rw [ev]
        exact Or.inr ⟨d, (_, _, _), rfl, rfl, j + 1, by omega, rfl⟩) (r - q) FU (nI 0, nI 0, nI q) (by rw [FU_eq]; omega) ⟨0, by omega, rfl⟩
  have e1 : lp_X8_word_8 (nI n) ft FU 0 0 (nI q) = some z := e1
  unfold sp_X8_word
  rw [skips8 T R]
  simp only [Option.bind_some]
  rw [e1, e2]
  simp only [Option.bind_some]
  by_cases c : 6 < r - q
  · rw [if_pos (show (6 : Int32) < nI (r - q) from nI_lt (a := 6) c (by omega)), if_pos c]
  · rw [if_neg (show ¬ (6 : Int32) < nI (r - q) from nI_nlt (a := 6) (by omega) (by omega)), if_neg c]
    by_cases c0 : r - q = 0
    · rw [if_pos (show nI (r - q) = 0 from by rw [c0]; rfl), if_pos c0]
    · rw [if_neg (nI_ne0 (by omega) (by omega)), if_neg c0, show min 6 (r - q) = r - q by omega]
/-- k figures from q on, as one number -/
def dgs (B : Nat → Nat) (q : Nat) : Nat → Int32
  | 0 => 0
  | k + 1 => 10 * dgs B q k + nI (B (q + k)) - 48
theorem figs7 {n q r : Nat} {B : Nat → Nat} {fb ft : Nat → Int32} (T : TX n B fb ft) (h1 : q ≤ r) (h2 : r ≤ n) : sp_X5_takeFigures (nI q) (nI r) fb = some (if 2 < r - q then 4 else 2, dgs B q (r - q)) := by
  have hn := T.1
  obtain ⟨z, e1, e2⟩ := lk1 (L := fun fu (x : Int32 × Int32) => lp_X5_takeFigures_34 (nI r) fb fu x.1 x.2)
    (fun d x => ∃ j : Nat, q + j + d = r ∧ x = (nI (q + j), dgs B q j)) (fun z => z.2 = dgs B q (r - q)) (by
    rintro d fu x hd ⟨j, hj, rfl⟩
    dsimp only
    rw [lp_X5_takeFigures_34]
    cases d with
    | zero =>
      obtain rfl : j = r - q := by omega
      rw [show q + (r - q) = r by omega, if_pos (Int32.le_refl _)]
      exact Or.inl ⟨_, rfl, rfl⟩
    | succ d =>
      rw [if_neg (nI_ge (by omega) (by omega)), at_n (by omega) (by omega), (T.2 (q + j) (by omega)).1, nI_1]
      exact Or.inr ⟨d, (_, _), rfl, rfl, j + 1, by omega, rfl⟩) (r - q) FU (nI q, 0) (by rw [FU_eq]; omega) ⟨0, by omega, rfl⟩
  have e1 : lp_X5_takeFigures_34 (nI r) fb FU (nI q) 0 = some z := e1
  unfold sp_X5_takeFigures
  rw [e1, pk_sub h1]
  simp only [Option.bind_some, lt_]
  rw [e2]
  by_cases c : 2 < r - q
  · rw [if_pos (show (2 : Int32) < nI (r - q) from nI_lt (a := 2) c (by omega)), if_pos c]
  · rw [if_neg (show ¬ (2 : Int32) < nI (r - q) from nI_nlt (a := 2) (by omega) (by omega)), if_neg c]
/-- a run of figures, as the model takes it -/
theorem num8 {n q r : Nat} {B : Nat → Nat} {fb ft : Nat → Int32} (T : TX n B fb ft) (R : RU n B 48 57 q r) : ∃ z : Int32 × Int32 × Int32, lp_X8_number_9 (nI n) 1 ft FU 0 0 (nI q) = some z ∧ z = (dgs B q (min 2 (r - q)), nI (r - q), nI r) := by
  obtain ⟨r1, r2, r3, r4⟩ := R
  have hn := T.1
  exact lk1 (L := fun fu (x : Int32 × Int32 × Int32) => lp_X8_number_9 (nI n) 1 ft fu x.1 x.2.1 x.2.2)
    (fun d x => ∃ j : Nat, j + d = r - q ∧ x = (dgs B q (min 2 j), nI j, nI (q + j))) (fun z => z = (dgs B q (min 2 (r - q)), nI (r - q), nI r)) (by
    rintro d fu x hd ⟨j, hj, rfl⟩
    dsimp only
    rw [lp_X8_number_9]
    cases d with
    | zero =>
      obtain rfl : j = r - q := by omega
      rw [show q + (r - q) = r by omega]
      by_cases c : r < n
      · rw [look_lt T c]
        simp only [Option.bind_some]
        rw [show sp_X8_in (nI (B r)) 48 57 = 0 from in_no (lo := 48) (hi := 57) (by have := (T.2 r c).2.2; omega) (by omega) (by omega) (fun h => r4 ⟨c, h⟩), if_pos rfl]
        exact Or.inl ⟨_, rfl, rfl⟩
      · obtain rfl : r = n := by omega
        rw [look_end]
        simp only [Option.bind_some]
        rw [if_pos (show sp_X8_in (-1) 48 57 = 0 from by decide)]
        exact Or.inl ⟨_, rfl, rfl⟩
    | succ d =>
      have c : q + j < n := by omega
      have h97 := r3 (q + j) (by omega) (by omega)
      rw [look_lt T c]
      simp only [Option.bind_some]
      rw [show sp_X8_in (nI (B (q + j))) 48 57 = 1 from in_yes (lo := 48) (hi := 57) h97.1 h97.2 (by omega), if_neg (show ¬ (1 : Int32) = 0 from by decide), if_neg (show ¬ (1 : Int32) = 0 from by decide), nI_1, nI_1]
      by_cases c6 : 2 ≤ j
      · rw [if_pos (show (2 : Int32) ≤ nI j from nI_le c6 (by omega))]
        simp only [Option.bind_some]
        exact Or.inr ⟨d, (_, _, _), rfl, rfl, j + 1, by omega, by rw [show min 2 (j + 1) = min 2 j by omega]; rfl⟩
      · rw [if_neg (show ¬ (2 : Int32) ≤ nI j from nI_ge (b := 2) (by omega) (by omega))]
        simp only [Option.bind_some]
        exact Or.inr ⟨d, (_, _, _), rfl, rfl, j + 1, by omega, by rw [show min 2 (j + 1) = j + 1 by omega, show min 2 j = j by omega]; rfl⟩) (r - q) FU (0, nI 0, nI q) (by rw [FU_eq]; omega) ⟨0, by omega, rfl⟩
theorem num8d {n q : Nat} {B : Nat → Nat} {fb ft : Nat → Int32} (T : TX n B fb ft) (hq : q ≤ n) : lp_X8_number_9 (nI n) 0 ft FU 0 0 (nI q) = some (0, 0, nI q) := by
  obtain ⟨f, hf⟩ : ∃ f, FU = f + 1 := ⟨2999, FU_eq⟩
  rw [hf, lp_X8_number_9]
  obtain ⟨x, ex⟩ : ∃ x : Int32, sp_X8_look (nI n) (nI q) ft = some x := by
    by_cases c : q < n
    · exact ⟨_, look_lt T c⟩
    · obtain rfl : q = n := by omega
      exact ⟨_, look_end⟩
  rw [ex]
  simp only [Option.bind_some]
  rw [if_pos trivial]
  split <;> rfl
/-- behind a fault: numbers and ends change nothing but the place -/
theorem dead_num {n p q : Nat} {lo hi fa : Int32} {B : Nat → Nat} {fb ft : Nat → Int32} (T : TX n B fb ft) (R : RU n B 32 32 p q) : sp_X8_number lo hi (nI n) (nI p) 0 fa ft = some (0, nI q, nI q, 0, fa) := by
  unfold sp_X8_number
  rw [skips8 T R]
  simp only [Option.bind_some]
  rw [num8d T R.2.1]
  simp only [Option.bind_some]
  rfl
theorem dead_ends {n p q : Nat} {fa : Int32} {B : Nat → Nat} {fb ft : Nat → Int32} (T : TX n B fb ft) (R : RU n B 32 32 p q) : sp_X8_ends (nI n) (nI p) 0 fa ft = some (nI q, nI q, 0, fa) := by
  unfold sp_X8_ends
  rw [skips8 T R]
  obtain ⟨x, ex⟩ : ∃ x : Int32, sp_X8_look (nI n) (nI q) ft = some x := by
    by_cases c : q < n
    · exact ⟨_, look_lt T c⟩
    · obtain rfl : q = n := by have := R.2.1; omega
      exact ⟨_, look_end⟩
  simp only [Option.bind_some]
  rw [ex]
  simp only [Option.bind_some]
  have e : (if x = 59 then ((0 : Int32), fa) else lt_ (sp_X8_fails (nI q) 0 fa) fun z6 => (z6.1, z6.2)) = (0, fa) := by split <;> rfl
  rw [e]
  simp only [lt_]
  rw [if_pos trivial, Int32.add_zero]
