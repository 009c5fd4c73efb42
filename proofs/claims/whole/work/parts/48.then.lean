/-! pure: years to come, the pair, notes and marks -/
theorem tries_ex (w tr : Nat → Int32) : ∃ g : Nat → Int32, sp_X8_triesOn w tr = some g ∧ ∀ j : Nat, j < 137 → g j = w j := by
  obtain ⟨g, g1, g2, _⟩ := copd (n0 := 682) (n2 := 682) (a := 0) (b := 0) (N := 137) (f := w) (g := tr) (by omega) (by omega) (by omega) (by omega) (by omega)
  refine ⟨g, ?_, fun j hj => by have := g2 j hj; rwa [Nat.zero_add] at this⟩
  have g1 : sp_X8_copies_d 682 682 0 0 137 w tr = some g := g1
  unfold sp_X8_triesOn
  rw [g1]; rfl
/-- what passing years reads in a row -/
def PS (kd off : Int32) (n : Nat) (pulls w : Nat → Int32) : Prop := w 0 = kd ∧ w 1 = off ∧ w 2 = nI n ∧ ∀ i : Nat, i < 6 → pulls i = w (69 + i)
theorem PS.pass {kd off : Int32} {n : Nat} {pulls w : Nat → Int32} (h : PS kd off n pulls w) (hn : n < 2 ^ 31) : ∃ w' : Nat → Int32, sp_X8_passes w = some w' ∧ PS kd (sp_X6_offBehind (nI n) off kd pulls) (n + 1) pulls w' ∧ ∀ j : Nat, j ≠ 1 → j ≠ 2 → w' j = w j := by
  obtain ⟨h0, h1, h2, h3⟩ := h
  refine ⟨_, passes_eq hn h2 h3, ⟨?_, ?_, upd_s, fun i hi => ?_⟩, fun j a b => (upd_o b).trans (upd_o a)⟩
  · exact (upd_o (by omega)).trans ((upd_o (by omega)).trans h0)
  · rw [upd_o (by omega), upd_s, h0, h1]
  · rw [upd_o (by omega), upd_o (by omega)]; exact h3 i hi
theorem then_eq {kd off : Int32} {m y : Nat} {pulls w : Nat → Int32} (hm : m ≤ 99) (hy : y ≤ 9999) (h : PS kd off y pulls w) : ∃ (r : Int32 × Int32) (r' : Int32 × (Nat → Int32)), lp_X7_then_30 (nI m) kd (nI y) pulls FU off 0 = some r ∧ lp_X8_then_23 (nI m) FU 0 w = some r' ∧ r.1 = r'.2 1 := by
  refine lk (L := fun fu (s : Int32 × Int32) => lp_X7_then_30 (nI m) kd (nI y) pulls fu s.1 s.2) (M := fun fu (s : Int32 × (Nat → Int32)) => lp_X8_then_23 (nI m) fu s.1 s.2)
    (fun d s t' => s.2 = t'.1 ∧ ∃ i : Nat, i + d = m ∧ s.2 = nI i ∧ PS kd s.1 (y + i) pulls t'.2) (fun r k => r.1 = k.2 1) (by
    rintro d fu ⟨o, x⟩ ⟨x', u⟩ hd ⟨rfl, i, hi, e, hp⟩
    simp only at e hp
    subst e
    dsimp only
    rw [lp_X7_then_30, lp_X8_then_23]
    cases d with
    | zero =>
      obtain rfl : i = m := by omega
      rw [if_pos (Int32.le_refl _), if_pos (Int32.le_refl _)]
      exact Or.inl ⟨_, _, rfl, rfl, hp.2.1.symm⟩
    | succ d =>
      obtain ⟨u', u1, u2, _⟩ := hp.pass (by omega)
      rw [if_neg (nI_ge (by omega) (by omega)), if_neg (nI_ge (by omega) (by omega)), u1, nI_add, nI_1]
      exact Or.inr ⟨d, (_, _), (_, _), rfl, rfl, rfl, rfl, i + 1, by omega, rfl, u2⟩) m FU (off, nI 0) (nI 0, w) (by rw [FU_eq]; omega) ⟨rfl, 0, by omega, rfl, h⟩
theorem TT.ps {s : CSt} {t : MSt} (h : TT s t) {g : Nat → Int32} {y : Nat} (hy : t.2.2 1 2 = nI y) (e : ∀ j : Nat, j < 137 → g j = t.2.2 1 j) : PS (s.1 4) (s.1 9) y (s.2.2.1 0) g :=
  ⟨(e 0 (by omega)).trans h.kind.symm, (e 1 (by omega)).trans h.off.symm, (e 2 (by omega)).trans hy, fun i hi => (h.pulls i hi).trans (e _ (by omega)).symm⟩
theorem st_then (p1 : Int32) (s : CSt) (t : MSt) (h : REL s t) : ∃ (r : Int32) (s1 : CSt) (t1 : MSt), S7_then p1 s = some (r, s1) ∧ S8_then p1 t = some (r, t1) ∧ REL s1 t1 := by
  obtain ⟨hT, hK, hC, hF, hX⟩ := h
  unfold S7_then S8_then sp_X7_then sp_X8_then
  by_cases c0 : sp_X8_in p1 0 99 = 0
  · rw [if_pos (show sp_X2_within p1 0 99 = 0 from c0), if_pos c0]
    exact ⟨_, _, _, rfl, rfl, hT, hK, hC.bad rfl rfl rfl rfl rfl rfl, hF, hX⟩
  · rw [if_neg (show ¬ sp_X2_within p1 0 99 = 0 from c0), if_neg c0]
    obtain ⟨m, _, hm, rfl⟩ := in_nat (lo := 0) (hi := 99) c0 (by omega) (by omega)
    obtain ⟨y, hy, y1, y2⟩ := hT.year
    obtain ⟨g, g1, g2⟩ := tries_ex (t.2.2 1) (t.2.2 3)
    obtain ⟨r, r', e1, e2, q⟩ := then_eq hm hy (hT.ps y2 g2)
    simp only [cl_1]
    rw [y1, e1, g1]
    simp only [Option.bind_some]
    rw [e2]
    exact stp rfl rfl (by show r'.2 1 = r.1; rw [q]) hT hK hC hF hX
theorem when_eq {kd off x c : Int32} {y : Nat} {pulls w ref : Nat → Int32} (hy : y ≤ 9999) (h : PS kd off y pulls w) : ∃ (r : Int32 × Int32) (r' : Int32 × (Nat → Int32) × (Nat → Int32)), lp_X7_when_30 x c kd (nI y) pulls FU off 0 = some r ∧ lp_X8_when_21 x ref FU 0 w = some r' ∧ r = (r'.1, c) ∧ r'.2.2 = ref := by
  refine lk (L := fun fu (s : Int32 × Int32) => lp_X7_when_30 x c kd (nI y) pulls fu s.1 s.2) (M := fun fu (s : Int32 × (Nat → Int32)) => lp_X8_when_21 x ref fu s.1 s.2)
    (fun d s t' => s.2 = t'.1 ∧ ∃ i : Nat, i + d = 100 ∧ s.2 = nI i ∧ PS kd s.1 (y + i) pulls t'.2) (fun r k => r = (k.1, c) ∧ k.2.2 = ref) (by
    rintro d fu ⟨o, z⟩ ⟨z', u⟩ hd ⟨rfl, i, hi, e, hp⟩
    simp only at e hp
    subst e
    dsimp only
    rw [lp_X7_when_30, lp_X8_when_21]
    simp only [cl_1, hp.2.1, j_abs_size]
    cases d with
    | zero =>
      obtain rfl : i = 100 := by omega
      rw [if_pos (show (99 : Int32) < nI 100 from by decide), if_pos (show (100 : Int32) ≤ nI 100 from by decide)]
      exact Or.inl ⟨_, _, rfl, rfl, rfl, rfl⟩
    | succ d =>
      obtain ⟨u', u1, u2, _⟩ := hp.pass (by omega)
      rw [if_neg (show ¬ (99 : Int32) < nI i from nI_nlt (b := i) (a := 99) (by omega) (by omega)), if_neg (show ¬ (100 : Int32) ≤ nI _ from nI_ge (b := 100) (by omega) (by omega)), u1, nI_add, nI_1]
      by_cases cc : sp_X8_size o < x
      · rw [if_pos cc, if_pos cc]
        exact Or.inr ⟨d, (_, _), (_, _), rfl, rfl, rfl, rfl, i + 1, by omega, rfl, u2⟩
      · rw [if_neg cc, if_neg cc]
        exact Or.inl ⟨_, _, rfl, rfl, rfl, rfl⟩) 100 FU (off, nI 0) (nI 0, w) (by rw [FU_eq]; omega) ⟨rfl, 0, by omega, rfl, h⟩
theorem st_when (p1 : Int32) (s : CSt) (t : MSt) (h : REL s t) : ∃ (r : Int32) (s1 : CSt) (t1 : MSt), S7_when p1 s = some (r, s1) ∧ S8_when p1 t = some (r, t1) ∧ REL s1 t1 := by
  obtain ⟨hT, hK, hC, hF, hX⟩ := h
  unfold S7_when S8_when sp_X7_when sp_X8_when
  by_cases c0 : sp_X8_in p1 1 9 = 0
  · rw [if_pos (show sp_X2_within p1 1 9 = 0 from c0), if_pos c0]
    exact ⟨_, _, _, rfl, rfl, hT, hK, hC.bad rfl rfl rfl rfl rfl rfl, hF, hX⟩
  · rw [if_neg (show ¬ sp_X2_within p1 1 9 = 0 from c0), if_neg c0]
    obtain ⟨y, hy, y1, y2⟩ := hT.year
    obtain ⟨g, g1, g2⟩ := tries_ex (t.2.2 1) (t.2.2 3)
    obtain ⟨r, r', e1, e2, q1, q2⟩ := when_eq (x := p1) (c := s.1 1) (ref := t.2.2 6) hy (hT.ps y2 g2)
    rw [y1, e1, g1]
    simp only [Option.bind_some]
    rw [e2, q1]
    refine ⟨_, _, _, rfl, rfl, hT, hK, ?_, hF, hX⟩
    refine ⟨?_, ?_, ?_⟩
    · show s.1 1 = r'.2.2 0
      rw [q2]; exact hC.1
    · show s.1 2 = r'.2.2 1
      rw [q2]; exact hC.2.1
    · show s.1 3 = r'.2.2 2
      rw [q2]; exact hC.2.2
theorem far_eq {kd off : Int32} {y : Nat} {pulls w : Nat → Int32} (hy : y ≤ 9999) (h : PS kd off y pulls w) : ∀ k : Nat, k < 4 → sp_X8_offBy (nI (k % 2)) (nI (k / 2)) w = some (sp_X7_farOffBehind (nI k) kd off (nI y) pulls) := by
  obtain ⟨h0, h1, h2, h3⟩ := h
  intro k hk
  unfold sp_X8_offBy sp_X7_farOffBehind
  simp only [cl_0, cl_1, cl_2, h0, h1, h2, pull_eq (show y < 2 ^ 31 by omega) h3, beh_eq (yr_n (show y < 2 ^ 31 by omega)), j_abs_size, lt_]
  match k, hk with
  | 0, _ => rfl
  | 1, _ => rfl
  | 2, _ => rfl
  | 3, _ => rfl
theorem gh00 : sp_X7_has (nI 0) 0 = 0 := by decide
theorem gh01 : sp_X7_has (nI 0) 1 = 0 := by decide
theorem gh10 : sp_X7_has (nI 1) 0 = 1 := by decide
theorem gh11 : sp_X7_has (nI 1) 1 = 0 := by decide
theorem gh20 : sp_X7_has (nI 2) 0 = 0 := by decide
theorem gh21 : sp_X7_has (nI 2) 1 = 1 := by decide
theorem gh30 : sp_X7_has (nI 3) 0 = 1 := by decide
theorem gh31 : sp_X7_has (nI 3) 1 = 1 := by decide
theorem gx01 : nI 0 ^^^ 1 = nI 1 := by decide
theorem gx02 : nI 0 ^^^ 2 = nI 2 := by decide
theorem gx11 : nI 1 ^^^ 1 = nI 0 := by decide
theorem gx12 : nI 1 ^^^ 2 = nI 3 := by decide
theorem gx21 : nI 2 ^^^ 1 = nI 3 := by decide
theorem gx22 : nI 2 ^^^ 2 = nI 0 := by decide
theorem gx31 : nI 3 ^^^ 1 = nI 2 := by decide
theorem gx32 : nI 3 ^^^ 2 = nI 1 := by decide
theorem gm0 : nI 0 - nI 0 / 2 * 2 = 0 := by decide
theorem gm1 : nI 1 - nI 1 / 2 * 2 = 1 := by decide
theorem gm2 : nI 2 - nI 2 / 2 * 2 = 0 := by decide
theorem gm3 : nI 3 - nI 3 / 2 * 2 = 1 := by decide
theorem gl0 : (nI 0 ≤ 1) = True := eq_true (by decide)
theorem gl1 : (nI 1 ≤ 1) = True := eq_true (by decide)
theorem gl2 : (nI 2 ≤ 1) = False := eq_false (by decide)
theorem gl3 : (nI 3 ≤ 1) = False := eq_false (by decide)
theorem z01 : ((0 : Int32) = 1) = False := eq_false (by decide)
theorem z10 : ((1 : Int32) = 0) = False := eq_false (by decide)
theorem game_if (a b : Int32) (c1 c2 : Prop) [Decidable c1] [Decidable c2] (K : Int32 → Option (Int32 × Int32)) : (Option.bind (if c1 then some 0 else if c2 then some 0 else some (1 : Int32)) fun z => K (a ||| if z = 0 then 0 else b)) = K (if (if c1 then (0 : Int32) else 1) = 0 then a else if (if c2 then (0 : Int32) else 1) = 0 then a else a ||| b) := by
  by_cases h1 : c1
  · simp only [h1, if_true, Option.bind_some, or0]
  · by_cases h2 : c2
    · simp only [h1, h2, if_true, if_false, Option.bind_some, or0, z10]
    · simp only [h1, h2, if_false, Option.bind_some, z10]
theorem game_eq {kd off : Int32} {y : Nat} {pulls w : Nat → Int32} (hy : y ≤ 9999) (h : PS kd off y pulls w) : ∃ r r' : Int32 × Int32, lp_X7_game_4 kd off (nI y) pulls FU 0 0 = some r ∧ lp_X8_game_4 w FU 0 0 = some r' ∧ r.1 = r'.1 := by
  have f := far_eq hy h
  have f0 : sp_X8_offBy 0 0 w = some (sp_X7_farOffBehind (nI 0) kd off (nI y) pulls) := f 0 (by omega)
  have f1 : sp_X8_offBy 1 0 w = some (sp_X7_farOffBehind (nI 1) kd off (nI y) pulls) := f 1 (by omega)
  have f2 : sp_X8_offBy 0 1 w = some (sp_X7_farOffBehind (nI 2) kd off (nI y) pulls) := f 2 (by omega)
  have f3 : sp_X8_offBy 1 1 w = some (sp_X7_farOffBehind (nI 3) kd off (nI y) pulls) := f 3 (by omega)
  refine lk (L := fun fu (s : Int32 × Int32) => lp_X7_game_4 kd off (nI y) pulls fu s.1 s.2) (M := fun fu (s : Int32 × Int32) => lp_X8_game_4 w fu s.1 s.2)
    (fun d s t' => s = t' ∧ ∃ i : Nat, i + d = 4 ∧ s.2 = nI i) (fun r k => r.1 = k.1) (by
    rintro d fu ⟨a, x⟩ s' hd ⟨rfl, i, hi, e⟩
    simp only at e
    subst e
    dsimp only
    rw [lp_X7_game_4, lp_X8_game_4]
    cases d with
    | zero =>
      obtain rfl : i = 4 := by omega
      rw [if_pos (show (4 : Int32) ≤ nI 4 from by decide), if_pos (show (4 : Int32) ≤ nI 4 from by decide)]
      exact Or.inl ⟨_, _, rfl, rfl, rfl⟩
    | succ d =>
      rw [if_neg (show ¬ (4 : Int32) ≤ nI _ from nI_ge (b := 4) (by omega) (by omega)), if_neg (show ¬ (4 : Int32) ≤ nI _ from nI_ge (b := 4) (by omega) (by omega))]
      unfold sp_X7_carrierGets sp_X7_keeperGets
      simp only [lt_, nI_1]
      rcases (show i = 0 ∨ i = 1 ∨ i = 2 ∨ i = 3 by omega) with rfl | rfl | rfl | rfl
      all_goals
        simp only [gh00, gh01, gh10, gh11, gh20, gh21, gh30, gh31, gx01, gx02, gx11, gx12, gx21, gx22, gx31, gx32, gm0, gm1, gm2, gm3, gl0, gl1, gl2, gl3, z01, z10, if_true, if_false, f0, f1, f2, f3, Option.bind_some]
        rw [game_if a _ _ _ (fun v => lp_X8_game_4 w fu v _)]
        exact Or.inr ⟨d, (_, _), (_, _), rfl, rfl, rfl, rfl, _, by omega, rfl⟩) 4 FU (0, nI 0) (0, nI 0) (by rw [FU_eq]; omega) ⟨rfl, 0, by omega, rfl⟩
theorem st_game (s : CSt) (t : MSt) (h : REL s t) : ∃ (r : Int32) (s1 : CSt) (t1 : MSt), S7_game s = some (r, s1) ∧ S8_game t = some (r, t1) ∧ REL s1 t1 := by
  obtain ⟨hT, hK, hC, hF, hX⟩ := h
  unfold S7_game S8_game sp_X7_game sp_X8_game
  obtain ⟨y, hy, y1, y2⟩ := hT.year
  obtain ⟨r, r', e1, e2, q⟩ := game_eq hy (hT.ps y2 (fun j _ => rfl))
  rw [y1, e1, e2]
  exact stp rfl rfl (by show r'.1 = r.1; rw [q]) hT hK hC hF hX
theorem upd4 (f : Nat → Int32) (a : Nat) (x0 x1 x2 x3 : Int32) : ∀ j : Nat, upd (upd (upd (upd f a x0) (a + 1) x1) (a + 2) x2) (a + 3) x3 j = if j = a then x0 else if j = a + 1 then x1 else if j = a + 2 then x2 else if j = a + 3 then x3 else f j := by
  intro j
  unfold upd
  by_cases h3 : j = a + 3
  · rw [if_pos h3, if_neg (by omega), if_neg (by omega), if_neg (by omega), if_pos h3]
  · by_cases h2 : j = a + 2
    · rw [if_neg h3, if_pos h2, if_neg (by omega), if_neg (by omega), if_pos h2]
    · by_cases h1 : j = a + 1
      · rw [if_neg h3, if_neg h2, if_pos h1, if_neg (by omega), if_pos h1]
      · rw [if_neg h3, if_neg h2, if_neg h1]
        by_cases h0 : j = a
        · rw [if_pos h0, if_pos h0]
        · rw [if_neg h0, if_neg h0, if_neg h1, if_neg h2, if_neg h3]
theorem upd5 (f : Nat → Int32) (a : Nat) (x0 x1 x2 x3 x4 : Int32) : ∀ j : Nat, upd (upd (upd (upd (upd f a x0) (a + 1) x1) (a + 2) x2) (a + 3) x3) (a + 4) x4 j = if j = a + 4 then x4 else if j = a then x0 else if j = a + 1 then x1 else if j = a + 2 then x2 else if j = a + 3 then x3 else f j := by
  intro j
  by_cases h4 : j = a + 4
  · rw [if_pos h4, h4, upd_s]
  · rw [if_neg h4, upd_o h4, upd4]
theorem st_note (p1 p2 p3 p4 : Int32) (s : CSt) (t : MSt) (h : REL s t) : ∃ (r : Int32) (s1 : CSt) (t1 : MSt), S7_note p1 p2 p3 p4 s = some (r, s1) ∧ S8_note p1 p2 p3 p4 t = some (r, t1) ∧ REL s1 t1 := by
  obtain ⟨hT, hK, hC, hF, hX⟩ := h
  unfold S7_note S8_note sp_X7_note sp_X8_note
  by_cases c0 : sp_X8_isTilt p1 = 0
  · rw [if_pos (show sp_X7_isTilt p1 = 0 from c0), if_pos c0]
    exact ⟨_, _, _, rfl, rfl, hT, hK, hC.bad rfl rfl rfl rfl rfl rfl, hF, hX⟩
  rw [if_neg (show ¬ sp_X7_isTilt p1 = 0 from c0), if_neg c0]
  by_cases c1 : sp_X8_isTilt p2 = 0
  · rw [if_pos (show sp_X7_isTilt p2 = 0 from c1), if_pos c1]
    exact ⟨_, _, _, rfl, rfl, hT, hK, hC.bad rfl rfl rfl rfl rfl rfl, hF, hX⟩
  rw [if_neg (show ¬ sp_X7_isTilt p2 = 0 from c1), if_neg c1]
  by_cases c2 : sp_X8_in p3 0 99 = 0
  · rw [if_pos (show sp_X2_within p3 0 99 = 0 from c2), if_pos c2]
    exact ⟨_, _, _, rfl, rfl, hT, hK, hC.bad rfl rfl rfl rfl rfl rfl, hF, hX⟩
  rw [if_neg (show ¬ sp_X2_within p3 0 99 = 0 from c2), if_neg c2]
  by_cases c3 : sp_X8_isTilt p4 = 0
  · rw [if_pos (show sp_X7_isTilt p4 = 0 from c3), if_pos c3]
    exact ⟨_, _, _, rfl, rfl, hT, hK, hC.bad rfl rfl rfl rfl rfl rfl, hF, hX⟩
  rw [if_neg (show ¬ sp_X7_isTilt p4 = 0 from c3), if_neg c3]
  obtain ⟨n, hn, e1, e2, e3⟩ := hT.notes
  obtain ⟨yy, _, hyy, rfl⟩ := in_nat (lo := 0) (hi := 99) c2 (by omega) (by omega)
  simp only [cl_81]
  by_cases c4 : n < 6
  · have x4 : nI n * 4 = nI (n * 4) := pk_mul n 4
    have x5 : nI (n * 4) + 2 = nI (n * 4 + 2) := nI_add _ 2
    have x6 : nI (n * 4) + 3 = nI (n * 4 + 3) := nI_add _ 3
    have y4 : (4 : Int32) * nI n = nI (4 * n) := pk_mul 4 n
    have y5 : (82 : Int32) + nI (4 * n) = nI (82 + 4 * n) := nI_add 82 _
    have y6 : nI (82 + 4 * n) + 2 = nI (82 + 4 * n + 2) := nI_add _ 2
    have y7 : nI (82 + 4 * n) + 3 = nI (82 + 4 * n + 3) := nI_add _ 3
    rw [e1, e2, if_pos (show nI n < 6 from nI_lt (b := 6) c4 (by omega)), if_neg (show ¬ nI n = 6 from fun q => absurd ((nI_eq (b := 6) (by omega) (by omega)).mp q) (by omega))]
    simp only [x4, x5, x6, y4, y5, y6, y7, nI_1, lt_]
    rw [put_n (by omega) (by omega), put_n (by omega) (by omega), put_n (by omega) (by omega), put_n (by omega) (by omega), gi_n (by omega) (by omega), gi_n (by omega) (by omega), gi_n (by omega) (by omega), gi_n (by omega) (by omega), nI_clamp (by omega), nI_clamp (by omega), nI_clamp (by omega), nI_clamp (by omega)]
    have hu := upd4 (t.2.2 1) (82 + 4 * n) p1 p2 (nI yy) p4
    have hv := upd4 (s.2.2.1 5) (n * 4) p1 p2 (nI yy) p4
    generalize upd (upd (upd (upd (t.2.2 1) (82 + 4 * n) p1) (82 + 4 * n + 1) p2) (82 + 4 * n + 2) (nI yy)) (82 + 4 * n + 3) p4 = W at hu
    generalize upd (upd (upd (upd (s.2.2.1 5) (n * 4) p1) (n * 4 + 1) p2) (n * 4 + 2) (nI yy)) (n * 4 + 3) p4 = V at hv
    have ho : ∀ j : Nat, j < 82 + 4 * n ∨ 82 + 4 * n + 4 ≤ j → W j = t.2.2 1 j := fun j hj => by rw [hu j, if_neg (by omega), if_neg (by omega), if_neg (by omega), if_neg (by omega)]
    have e81 : W 81 = nI n := (ho 81 (by omega)).trans e2
    rw [e81]
    simp only [nI_1, upd_s]
    refine ⟨_, _, _, rfl, rfl, ?_, hK, hC, hF, hX⟩
    obtain ⟨h1, h2, h3, h4, h5, h6, h7⟩ := hT
    have o : ∀ j : Nat, j ≠ 81 → (j < 82 + 4 * n ∨ 82 + 4 * n + 4 ≤ j) → upd W 81 (nI (n + 1)) j = t.2.2 1 j := fun j a b => (upd_o a).trans (ho j b)
    show TR (s.1 4) (s.1 5) (s.1 6) (nI (n + 1)) (s.1 8) (s.1 9) (s.1 10) (s.2.2.1 0) (s.2.2.1 1) (s.2.2.1 2) (s.2.2.1 3) (s.2.2.1 4) V (s.2.2.1 6) (s.2.2.2.1 0) (s.2.2.2.1 1) (s.2.2.2.2.1 0) (s.2.2.2.2.1 1) (s.2.2.2.2.1 2) (upd W 81 (nI (n + 1))) 0
    refine ⟨h1.trans (o 0 (by omega) (by omega)).symm, h2.cong (fun j _ _ => o j (by omega) (by omega)), h3.cong (fun j _ _ => o j (by omega) (by omega)), h4.cong (fun j _ _ => o j (by omega) (by omega)), ⟨n + 1, by omega, rfl, upd_s, fun i hi => ?_⟩, h6.cong (fun j _ _ => o j (by omega) (by omega)), h7.cong (fun j _ _ => o j (by omega) (by omega))⟩
    by_cases hin : i = n
    · subst hin
      refine ⟨?_, fun j hj => ?_⟩
      · rw [hv, if_neg (by omega), if_neg (by omega), if_pos (by omega)]; exact yr_n (by omega)
      · rw [hv, Nat.zero_add, upd_o (by omega), hu]
        have : j = 0 ∨ j = 1 ∨ j = 2 ∨ j = 3 := by omega
        rcases this with rfl | rfl | rfl | rfl
        · rw [if_pos (by omega), if_pos (by omega)]
        · rw [if_neg (by omega), if_pos (by omega), if_neg (by omega), if_pos (by omega)]
        · rw [if_neg (by omega), if_neg (by omega), if_pos (by omega), if_neg (by omega), if_neg (by omega), if_pos (by omega)]
        · rw [if_neg (by omega), if_neg (by omega), if_neg (by omega), if_pos (by omega), if_neg (by omega), if_neg (by omega), if_neg (by omega), if_pos (by omega)]
    · obtain ⟨g1, g2⟩ := e3 i (by omega)
      refine ⟨?_, fun j hj => ?_⟩
      · rw [hv, if_neg (by omega), if_neg (by omega), if_neg (by omega), if_neg (by omega)]; exact g1
      · rw [hv, if_neg (by omega), if_neg (by omega), if_neg (by omega), if_neg (by omega), Nat.zero_add, o _ (by omega) (by omega)]; exact g2 j hj
  · obtain rfl : n = 6 := by omega
    rw [e1, e2, if_neg (show ¬ nI 6 < 6 from by decide), if_pos (show nI 6 = 6 from rfl), ← e1]
    exact ⟨_, _, _, rfl, rfl, hT, hK, hC.full rfl rfl rfl rfl rfl rfl, hF, hX⟩
theorem st_mark (p1 p2 p3 p4 p5 : Int32) (s : CSt) (t : MSt) (h : REL s t) : ∃ (r : Int32) (s1 : CSt) (t1 : MSt), S7_mark p1 p2 p3 p4 p5 s = some (r, s1) ∧ S8_mark p1 p2 p3 p4 p5 t = some (r, t1) ∧ REL s1 t1 := by
  obtain ⟨hT, hK, hC, hF, hX⟩ := h
  unfold S7_mark S8_mark sp_X7_mark sp_X8_mark
  simp only [lt_]
  by_cases c0 : sp_X8_in p1 0 9 = 0
  · rw [if_pos (show sp_X7_isName p1 = 0 from c0), if_pos c0, if_pos rfl]
    exact ⟨_, _, _, rfl, rfl, hT, hK, hC.bad rfl rfl rfl rfl rfl rfl, hF, hX⟩
  rw [if_neg (show ¬ sp_X7_isName p1 = 0 from c0), if_neg c0]
  by_cases c1 : sp_X8_isTilt p2 = 0
  · rw [if_pos (show sp_X7_isTilt p2 = 0 from c1), if_pos c1, if_pos rfl]
    exact ⟨_, _, _, rfl, rfl, hT, hK, hC.bad rfl rfl rfl rfl rfl rfl, hF, hX⟩
  rw [if_neg (show ¬ sp_X7_isTilt p2 = 0 from c1), if_neg c1]
  by_cases c2 : sp_X8_isTilt p3 = 0
  · rw [if_pos (show sp_X7_isTilt p3 = 0 from c2), if_pos c2, if_pos rfl]
    exact ⟨_, _, _, rfl, rfl, hT, hK, hC.bad rfl rfl rfl rfl rfl rfl, hF, hX⟩
  rw [if_neg (show ¬ sp_X7_isTilt p3 = 0 from c2), if_neg c2]
  by_cases c3 : sp_X8_in p4 0 30 = 0
  · rw [if_pos (show sp_X2_within p4 0 30 = 0 from c3), if_pos c3, if_pos rfl]
    exact ⟨_, _, _, rfl, rfl, hT, hK, hC.bad rfl rfl rfl rfl rfl rfl, hF, hX⟩
  rw [if_neg (show ¬ sp_X2_within p4 0 30 = 0 from c3), if_neg c3]
  by_cases c5 : sp_X8_in p5 0 1 = 0
  · rw [if_pos (show sp_X2_within p5 0 1 = 0 from c5), if_pos c5, if_pos rfl]
    exact ⟨_, _, _, rfl, rfl, hT, hK, hC.bad rfl rfl rfl rfl rfl rfl, hF, hX⟩
  rw [if_neg (show ¬ sp_X2_within p5 0 1 = 0 from c5), if_neg c5, if_neg (show ¬ (1 : Int32) = 0 from by decide)]
  obtain ⟨n, hn, e1, e2, e3⟩ := hT.marks
  simp only [cl_106]
  by_cases c4 : n < 6
  · have x4 : nI n * 5 = nI (n * 5) := pk_mul n 5
    have x5 : nI (n * 5) + 2 = nI (n * 5 + 2) := nI_add _ 2
    have x6 : nI (n * 5) + 3 = nI (n * 5 + 3) := nI_add _ 3
    have x7 : nI (n * 5) + 4 = nI (n * 5 + 4) := nI_add _ 4
    have y4 : (5 : Int32) * nI n = nI (5 * n) := pk_mul 5 n
    have y5 : (107 : Int32) + nI (5 * n) = nI (107 + 5 * n) := nI_add 107 _
    have y6 : nI (107 + 5 * n) + 2 = nI (107 + 5 * n + 2) := nI_add _ 2
    have y7 : nI (107 + 5 * n) + 3 = nI (107 + 5 * n + 3) := nI_add _ 3
    have y8 : nI (107 + 5 * n) + 4 = nI (107 + 5 * n + 4) := nI_add _ 4
    rw [e1, e2, if_pos (show nI n < 6 from nI_lt (b := 6) c4 (by omega)), if_neg (show ¬ nI n = 6 from fun q => absurd ((nI_eq (b := 6) (by omega) (by omega)).mp q) (by omega))]
    simp only [x4, x5, x6, x7, y4, y5, y6, y7, y8, nI_1]
    rw [put_n (by omega) (by omega), put_n (by omega) (by omega), put_n (by omega) (by omega), put_n (by omega) (by omega), put_n (by omega) (by omega), gi_n (by omega) (by omega), gi_n (by omega) (by omega), gi_n (by omega) (by omega), gi_n (by omega) (by omega), gi_n (by omega) (by omega), nI_clamp (by omega), nI_clamp (by omega), nI_clamp (by omega), nI_clamp (by omega), nI_clamp (by omega)]
    have hu := upd5 (t.2.2 1) (107 + 5 * n) p1 p2 p3 p4 p5
    have hv := upd5 (s.2.2.1 6) (n * 5) p1 p2 p3 p4 p5
    generalize upd (upd (upd (upd (upd (t.2.2 1) (107 + 5 * n) p1) (107 + 5 * n + 1) p2) (107 + 5 * n + 2) p3) (107 + 5 * n + 3) p4) (107 + 5 * n + 4) p5 = W at hu
    generalize upd (upd (upd (upd (upd (s.2.2.1 6) (n * 5) p1) (n * 5 + 1) p2) (n * 5 + 2) p3) (n * 5 + 3) p4) (n * 5 + 4) p5 = V at hv
    have ho : ∀ j : Nat, j < 107 + 5 * n ∨ 107 + 5 * n + 5 ≤ j → W j = t.2.2 1 j := fun j hj => by rw [hu j, if_neg (by omega), if_neg (by omega), if_neg (by omega), if_neg (by omega), if_neg (by omega)]
    have e81 : W 106 = nI n := (ho 106 (by omega)).trans e2
    rw [e81]
    simp only [nI_1, upd_s]
    refine ⟨_, _, _, rfl, rfl, ?_, hK, hC, hF, hX⟩
    obtain ⟨h1, h2, h3, h4, h5, h6, h7⟩ := hT
    have o : ∀ j : Nat, j ≠ 106 → (j < 107 + 5 * n ∨ 107 + 5 * n + 5 ≤ j) → upd W 106 (nI (n + 1)) j = t.2.2 1 j := fun j a b => (upd_o a).trans (ho j b)
    show TR (s.1 4) (s.1 5) (s.1 6) (s.1 7) (nI (n + 1)) (s.1 9) (s.1 10) (s.2.2.1 0) (s.2.2.1 1) (s.2.2.1 2) (s.2.2.1 3) (s.2.2.1 4) (s.2.2.1 5) V (s.2.2.2.1 0) (s.2.2.2.1 1) (s.2.2.2.2.1 0) (s.2.2.2.2.1 1) (s.2.2.2.2.1 2) (upd W 106 (nI (n + 1))) 0
    refine ⟨h1.trans (o 0 (by omega) (by omega)).symm, h2.cong (fun j _ _ => o j (by omega) (by omega)), h3.cong (fun j _ _ => o j (by omega) (by omega)), h4.cong (fun j _ _ => o j (by omega) (by omega)), h5.cong (fun j _ _ => o j (by omega) (by omega)), ⟨n + 1, by omega, rfl, upd_s, fun i hi => ?_⟩, h7.cong (fun j _ _ => o j (by omega) (by omega))⟩
    by_cases hin : i = n
    · subst hin
      refine ⟨?_, fun j hj => ?_⟩
      · rw [hv, if_neg (by omega), if_neg (by omega), if_pos (by omega)]; exact in_tilt c1
      · rw [hv, Nat.zero_add, upd_o (by omega), hu]
        have : j = 0 ∨ j = 1 ∨ j = 2 ∨ j = 3 ∨ j = 4 := by omega
        rcases this with rfl | rfl | rfl | rfl | rfl
        · rw [if_neg (by omega), if_pos (by omega), if_neg (by omega), if_pos (by omega)]
        · rw [if_neg (by omega), if_neg (by omega), if_pos (by omega), if_neg (by omega), if_neg (by omega), if_pos (by omega)]
        · rw [if_neg (by omega), if_neg (by omega), if_neg (by omega), if_pos (by omega), if_neg (by omega), if_neg (by omega), if_neg (by omega), if_pos (by omega)]
        · rw [if_neg (by omega), if_neg (by omega), if_neg (by omega), if_neg (by omega), if_pos (by omega), if_neg (by omega), if_neg (by omega), if_neg (by omega), if_neg (by omega), if_pos (by omega)]
        · rw [if_pos (by omega), if_pos (by omega)]
    · obtain ⟨g1, g2⟩ := e3 i (by omega)
      refine ⟨?_, fun j hj => ?_⟩
      · rw [hv, if_neg (by omega), if_neg (by omega), if_neg (by omega), if_neg (by omega), if_neg (by omega)]; exact g1
      · rw [hv, if_neg (by omega), if_neg (by omega), if_neg (by omega), if_neg (by omega), if_neg (by omega), Nat.zero_add, o _ (by omega) (by omega)]; exact g2 j hj
  · obtain rfl : n = 6 := by omega
    rw [e1, e2, if_neg (show ¬ nI 6 < 6 from by decide), if_pos (show nI 6 = 6 from rfl), ← e1]
    exact ⟨_, _, _, rfl, rfl, hT, hK, hC.full rfl rfl rfl rfl rfl rfl, hF, hX⟩
theorem st_forget (p1 : Int32) (s : CSt) (t : MSt) (h : REL s t) : ∃ (r : Int32) (s1 : CSt) (t1 : MSt), S7_forget p1 s = some (r, s1) ∧ S8_forget p1 t = some (r, t1) ∧ REL s1 t1 := by
  obtain ⟨hT, hK, hC, hF, hX⟩ := h
  unfold S7_forget S8_forget sp_X7_forget sp_X8_forget
  by_cases c0 : sp_X8_in p1 0 1 = 0
  · have n0 : ¬ p1 = 0 := fun q => by subst q; exact absurd c0 (by decide)
    have n1 : ¬ p1 = 1 := fun q => by subst q; exact absurd c0 (by decide)
    rw [if_pos c0, if_neg n0, if_neg n1]
    exact ⟨_, _, _, rfl, rfl, hT, hK, hC.bad rfl rfl rfl rfl rfl rfl, hF, hX⟩
  · rw [if_neg c0]
    obtain ⟨q, _, hq, rfl⟩ := in_nat (lo := 0) (hi := 1) c0 (by omega) (by omega)
    match q, hq with
    | 0, _ =>
      obtain ⟨n, hn, e1, e2, e3⟩ := hT.notes
      rw [if_pos (show nI 0 = 0 from rfl), if_pos (show nI 0 = 0 from rfl)]
      simp only [lt_, cl_81]
      rw [gi_t (show vp_in 81 682 from vp_in_nI (n := 81) (by omega) (by omega))]
      refine stp rfl rfl (by show t.2.2 1 81 = s.1 7; rw [e1, e2]) ?_ hK hC hF hX
      obtain ⟨h1, h2, h3, h4, h5, h6, h7⟩ := hT
      have o : ∀ j : Nat, j ≠ 81 → upd (t.2.2 1) 81 0 j = t.2.2 1 j := fun j a => upd_o a
      show TR (s.1 4) (s.1 5) (s.1 6) 0 (s.1 8) (s.1 9) (s.1 10) (s.2.2.1 0) (s.2.2.1 1) (s.2.2.1 2) (s.2.2.1 3) (s.2.2.1 4) (s.2.2.1 5) (s.2.2.1 6) (s.2.2.2.1 0) (s.2.2.2.1 1) (s.2.2.2.2.1 0) (s.2.2.2.2.1 1) (s.2.2.2.2.1 2) (upd (t.2.2 1) 81 0) 0
      exact ⟨h1.trans (o 0 (by omega)).symm, h2.cong (fun j _ _ => o j (by omega)), h3.cong (fun j _ _ => o j (by omega)), h4.cong (fun j _ _ => o j (by omega)), ⟨0, by omega, nI_0.symm, upd_s.trans nI_0.symm, fun i hi => absurd hi (by omega)⟩, h6.cong (fun j _ _ => o j (by omega)), h7.cong (fun j _ _ => o j (by omega))⟩
    | 1, _ =>
      obtain ⟨n, hn, e1, e2, e3⟩ := hT.marks
      rw [if_neg (show ¬ nI 1 = 0 from by decide), if_neg (show ¬ nI 1 = 0 from by decide), if_pos (show nI 1 = 1 from rfl)]
      simp only [lt_, cl_106]
      rw [gi_t (show vp_in 106 682 from vp_in_nI (n := 106) (by omega) (by omega))]
      refine stp rfl rfl (by show t.2.2 1 106 = s.1 8; rw [e1, e2]) ?_ hK hC hF hX
      obtain ⟨h1, h2, h3, h4, h5, h6, h7⟩ := hT
      have o : ∀ j : Nat, j ≠ 106 → upd (t.2.2 1) 106 0 j = t.2.2 1 j := fun j a => upd_o a
      show TR (s.1 4) (s.1 5) (s.1 6) (s.1 7) 0 (s.1 9) (s.1 10) (s.2.2.1 0) (s.2.2.1 1) (s.2.2.1 2) (s.2.2.1 3) (s.2.2.1 4) (s.2.2.1 5) (s.2.2.1 6) (s.2.2.2.1 0) (s.2.2.2.1 1) (s.2.2.2.2.1 0) (s.2.2.2.2.1 1) (s.2.2.2.2.1 2) (upd (t.2.2 1) 106 0) 0
      exact ⟨h1.trans (o 0 (by omega)).symm, h2.cong (fun j _ _ => o j (by omega)), h3.cong (fun j _ _ => o j (by omega)), h4.cong (fun j _ _ => o j (by omega)), h5.cong (fun j _ _ => o j (by omega)), ⟨0, by omega, nI_0.symm, upd_s.trans nI_0.symm, fun i hi => absurd hi (by omega)⟩, h7.cong (fun j _ _ => o j (by omega))⟩
