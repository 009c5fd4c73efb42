/-! pure: what may be undone; building, years, undoing -/
theorem SR.hs {off year : Int32} {h k t w : Nat → Int32} (H : SR off year h k t w 1) : HS h k t w := H.2.2.2
theorem note2 {m : Nat} {u : Nat → Int32} (hm : m ≤ 7) (hu : u 137 = nI m) : ∃ w' : Nat → Int32, (Option.bind (sp_X8_copies_s 682 1 (138 + 68 * u 137) 68 u) fun z5 => some (upd z5 137 (z5 137 + 1))) = some w' ∧ w' 137 = nI (m + 1) ∧ (∀ j : Nat, j < 68 → w' (138 + 68 * m + j) = u (1 + j)) ∧ ∀ j : Nat, j ≠ 137 → (j < 138 + 68 * m ∨ 138 + 68 * m + 68 ≤ j) → w' j = u j := by
  obtain ⟨g, g1, g2, g3⟩ := cops (n0 := 682) (a := 1) (b := 138 + 68 * m) (N := 68) (f := u) (by omega) (by omega) (by omega) (by omega) (by omega)
  have e : (138 : Int32) + 68 * u 137 = nI (138 + 68 * m) := by
    rw [hu, show (68 : Int32) * nI m = nI (68 * m) from pk_mul 68 m]; exact nI_add 138 _
  have g1 : sp_X8_copies_s 682 1 (nI (138 + 68 * m)) 68 u = some g := g1
  have e137 : g 137 = nI m := (g3 137 (by omega)).trans hu
  refine ⟨upd g 137 (nI (m + 1)), ?_, upd_s, fun j hj => ?_, fun j h1 h2 => (upd_o h1).trans (g3 j h2)⟩
  · rw [e, g1]
    simp only [Option.bind_some, e137, nI_1]
  · rw [upd_o (by omega)]; exact g2 j hj
theorem keep_eq {n : Nat} {off year : Int32} {h k t w : Nat → Int32} {A B C D : Nat → Nat} {pO pY : Nat → Int32} {ph pk pt : Nat → Nat → Int32} (hn : n ≤ 8) (hw : w 137 = nI n) (hS : SR off year h k t w 1) (hP : ∀ i : Nat, i < n → SR (pO i) (pY i) (ph i) (pk i) (pt i) w (138 + 68 * i)) :
    ∃ (z : Int32 × (Nat → Nat) × (Nat → Nat) × (Nat → Nat) × (Nat → Nat) × (Nat → Int32) × (Nat → Int32) × (Nat → Nat → Int32) × (Nat → Nat → Int32) × (Nat → Nat → Int32)) (w' : Nat → Int32), sp_X6_keepForUndo (nI n) off year h k t A B C D pO pY ph pk pt = some z ∧ sp_X8_notes w = some w' ∧ PA z.1 z.2.2.2.2.2.1 z.2.2.2.2.2.2.1 z.2.2.2.2.2.2.2.1 z.2.2.2.2.2.2.2.2.1 z.2.2.2.2.2.2.2.2.2 w' 0 ∧ ∀ j : Nat, j < 137 → w' j = w j := by
  unfold sp_X6_keepForUndo sp_X8_notes
  simp only [cl_137]
  rw [gi_n (by omega) (by omega), hw]
  by_cases h8 : n = 8
  · subst h8
    rw [if_pos (show nI 8 = 8 from rfl), if_pos (show nI 8 = 8 from rfl)]
    obtain ⟨g, g1, g2, g3⟩ := cops (n0 := 682) (a := 206) (b := 138) (N := 476) (f := w) (by omega) (by omega) (by omega) (by omega) (by omega)
    have g1 : sp_X8_copies_s 682 206 138 476 w = some g := g1
    have e137 : g 137 = nI 8 := (g3 137 (by omega)).trans hw
    rw [g1]
    simp only [Option.bind_some, e137]
    rw [show nI 8 - 1 = nI 7 from by decide]
    obtain ⟨w', w1, w2, w3, w4⟩ := note2 (m := 7) (u := upd g 137 (nI 7)) (by omega) upd_s
    refine ⟨_, w', rfl, w1, ?_, fun j hj => by rw [w4 j (by omega) (by omega), upd_o (by omega), g3 j (by omega)]⟩
    refine ⟨8, by omega, rfl, w2, fun i hi => ?_⟩
    rw [Nat.zero_add]
    by_cases h7 : i = 7
    · subst h7
      show SR off year h k t w' (138 + 68 * 7)
      exact hS.move (fun j hj => by rw [w3 j hj, upd_o (by omega), g3 _ (by omega)])
    · have := (hP (i + 1) (by omega)).move (w' := w') (o' := 138 + 68 * i) (fun j hj => by
        rw [w4 _ (by omega) (by omega), upd_o (by omega), show 138 + 68 * i + j = 138 + (68 * i + j) by omega, g2 _ (by omega), show 206 + (68 * i + j) = 138 + 68 * (i + 1) + j by omega])
      show SR (va_up (rot pO) 7 off i) (va_up (rot pY) 7 year i) (va_up (rot ph) 7 h i) (va_up (rot pk) 7 k i) (va_up (rot pt) 7 t i) w' (138 + 68 * i)
      unfold va_up rot
      rw [if_neg h7, if_neg h7, if_neg h7, if_neg h7, if_neg h7, show (i + 1) % 8 = i + 1 from Nat.mod_eq_of_lt (by omega)]
      exact this
  · have hne : ¬ nI n = 8 := fun q => h8 ((nI_eq (b := 8) (by omega) (by omega)).mp q)
    rw [if_neg hne, if_neg hne, nI_clamp (by omega), nI_1]
    obtain ⟨w', w1, w2, w3, w4⟩ := note2 (m := n) (u := w) (by omega) hw
    rw [hw] at w1
    simp only [Option.bind_some]
    rw [hw]
    refine ⟨_, w', rfl, w1, ?_, fun j hj => w4 j (by omega) (by omega)⟩
    refine ⟨n + 1, by omega, rfl, w2, fun i hi => ?_⟩
    rw [Nat.zero_add]
    show SR (va_up pO n off i) (va_up pY n year i) (va_up ph n h i) (va_up pk n k i) (va_up pt n t i) w' (138 + 68 * i)
    unfold va_up
    by_cases h7 : i = n
    · subst h7
      rw [if_pos rfl, if_pos rfl, if_pos rfl, if_pos rfl, if_pos rfl]
      exact hS.move (fun j hj => by rw [w3 j hj])
    · rw [if_neg h7, if_neg h7, if_neg h7, if_neg h7, if_neg h7]
      exact (hP i (by omega)).cong (fun j _ _ => w4 j (by omega) (by omega))
theorem isB_eq (p1 p2 p3 : Int32) : sp_X7_isBuilding p1 p2 p3 = if sp_X8_isPlot p1 = 0 then 0 else if sp_X8_isKind p2 = 0 then 0 else if sp_X8_in p3 0 1 = 0 then 0 else 1 := rfl
theorem tb_bt {p3 off : Int32} (h : bt off) : bt (sp_X7_tiltBuilt p3 off) := by
  unfold sp_X7_tiltBuilt
  split
  · exact bt_0
  · exact h
theorem st_build (p1 p2 p3 : Int32) (s : CSt) (t : MSt) (h : REL s t) : ∃ (r : Int32) (s1 : CSt) (t1 : MSt), S7_build p1 p2 p3 s = some (r, s1) ∧ S8_build p1 p2 p3 t = some (r, t1) ∧ REL s1 t1 := by
  obtain ⟨hT, hK, hC, hF, hX⟩ := h
  unfold S7_build S8_build sp_X7_build sp_X8_build
  rw [isB_eq]
  by_cases c0 : sp_X8_isPlot p1 = 0
  · rw [if_pos c0, if_pos c0, if_pos rfl]
    exact ⟨_, _, _, rfl, rfl, hT, hK, hC.bad rfl rfl rfl rfl rfl rfl, hF, hX⟩
  rw [if_neg c0, if_neg c0]
  by_cases c1 : sp_X8_isKind p2 = 0
  · rw [if_pos c1, if_pos c1, if_pos rfl]
    exact ⟨_, _, _, rfl, rfl, hT, hK, hC.bad rfl rfl rfl rfl rfl rfl, hF, hX⟩
  rw [if_neg c1, if_neg c1]
  by_cases c2 : sp_X8_in p3 0 1 = 0
  · rw [if_pos c2, if_pos c2, if_pos rfl]
    exact ⟨_, _, _, rfl, rfl, hT, hK, hC.bad rfl rfl rfl rfl rfl rfl, hF, hX⟩
  rw [if_neg c2, if_neg c2, if_neg (show ¬ (1 : Int32) = 0 from by decide)]
  obtain ⟨p, _, hp, rfl⟩ := in_nat (lo := 0) (hi := 5) c0 (by omega) (by omega)
  obtain ⟨n, hn, e1, e2, e3⟩ := hT.hts p (by omega)
  rw [height_n (by omega), e1, n3, gi_n (by omega) (by omega), nI_clamp (by omega), e2]
  by_cases c3 : n < 5
  · rw [if_pos (show nI n < 5 from nI_lt (b := 5) c3 (by omega)), if_neg (show ¬ nI n = 5 from fun q => absurd ((nI_eq (b := 5) (by omega) (by omega)).mp q) (by omega))]
    obtain ⟨np, hnp, p1', p2', p3'⟩ := hT.pasts
    have hS : SR (s.1 9) (s.1 10) (s.2.2.1 1) (s.2.2.1 2) (s.2.2.1 3) (t.2.2 1) 1 := hT.2.1
    obtain ⟨z, w', k1, k2, k3, k4⟩ := keep_eq (A := s.2.2.2.2.2.2 0) (B := s.2.2.2.2.2.2 1) (C := s.2.2.2.2.2.2 2) (D := s.2.2.2.2.2.2 3) hnp p2' hS p3'
    have hS' : SR (s.1 9) (s.1 10) (s.2.2.1 1) (s.2.2.1 2) (s.2.2.1 3) w' 1 := hS.cong (fun j _ _ => k4 j (by omega))
    obtain ⟨h', k', t', w'', r1, r2, r3, r4⟩ := raise_eq (p := p) (n := n) (kd := p2) (tl := sp_X7_tiltBuilt p3 (s.1 9)) (by omega) hS'.hs c3 e1 (tb_bt hT.boff)
    have ew1 : (if p3 = 1 then 0 else w' 1) = sp_X7_tiltBuilt p3 (s.1 9) := by unfold sp_X7_tiltBuilt; rw [k4 1 (by omega), ← hT.off]
    rw [p1', k1, k2]
    simp only [Option.bind_some, lt_, cl_1]
    rw [ew1, r1, r2]
    simp only [Option.bind_some]
    rw [height_n (by omega)]
    obtain ⟨a, ha, a1, a2, _⟩ := r3 p (by omega)
    rw [a1, a2]
    refine ⟨_, _, _, rfl, rfl, ?_, hK, hC, hF, hX⟩
    have hl : ∀ j : Nat, j < 3 ∨ 69 ≤ j → w'' j = w' j := fun j hj => r4 j (by omega) (by omega)
    have hl2 : ∀ j : Nat, j < 3 ∨ (69 ≤ j ∧ j < 137) → w'' j = t.2.2 1 j := fun j hj => by rw [hl j (by omega), k4 j (by omega)]
    obtain ⟨h1, h2, h3, h4, h5, h6, h7⟩ := hT
    show TR (s.1 4) z.1 (s.1 6) (s.1 7) (s.1 8) (s.1 9) (s.1 10) (s.2.2.1 0) h' k' t' (s.2.2.1 4) (s.2.2.1 5) (s.2.2.1 6) z.2.2.2.2.2.1 z.2.2.2.2.2.2.1 z.2.2.2.2.2.2.2.1 z.2.2.2.2.2.2.2.2.1 z.2.2.2.2.2.2.2.2.2 w'' 0
    refine ⟨h1.trans (hl2 0 (by omega)).symm, ⟨?_, hS.2.1, ?_, r3⟩, h3.cong (fun j _ _ => hl2 j (by omega)), h4.cong (fun j _ _ => hl2 j (by omega)), h5.cong (fun j _ _ => hl2 j (by omega)), h6.cong (fun j _ _ => hl2 j (by omega)), k3.cong (fun j _ _ => hl j (by omega))⟩
    · exact hS.1.trans (hl2 1 (by omega)).symm
    · obtain ⟨y, y0, y1, y2⟩ := hS.2.2.1
      exact ⟨y, y0, y1, (hl2 2 (by omega)).trans y2⟩
  · obtain rfl : n = 5 := by omega
    rw [if_neg (show ¬ nI 5 < 5 from by decide), if_pos (show nI 5 = 5 from rfl)]
    exact ⟨_, _, _, rfl, rfl, hT, hK, hC.full rfl rfl rfl rfl rfl rfl, hF, hX⟩
theorem st_fits (p1 p2 p3 : Int32) (s : CSt) (t : MSt) (h : REL s t) : ∃ (r : Int32) (s1 : CSt) (t1 : MSt), S7_fits p1 p2 p3 s = some (r, s1) ∧ S8_fits p1 p2 p3 t = some (r, t1) ∧ REL s1 t1 := by
  obtain ⟨hT, hK, hC, hF, hX⟩ := h
  unfold S7_fits S8_fits sp_X7_fits sp_X8_fits
  rw [isB_eq]
  by_cases c0 : sp_X8_isPlot p1 = 0
  · rw [if_pos c0, if_pos c0, if_pos rfl]
    exact ⟨_, _, _, rfl, rfl, hT, hK, hC.bad rfl rfl rfl rfl rfl rfl, hF, hX⟩
  rw [if_neg c0, if_neg c0]
  by_cases c1 : sp_X8_isKind p2 = 0
  · rw [if_pos c1, if_pos c1, if_pos rfl]
    exact ⟨_, _, _, rfl, rfl, hT, hK, hC.bad rfl rfl rfl rfl rfl rfl, hF, hX⟩
  rw [if_neg c1, if_neg c1]
  by_cases c2 : sp_X8_in p3 0 1 = 0
  · rw [if_pos c2, if_pos c2, if_pos rfl]
    exact ⟨_, _, _, rfl, rfl, hT, hK, hC.bad rfl rfl rfl rfl rfl rfl, hF, hX⟩
  rw [if_neg c2, if_neg c2, if_neg (show ¬ (1 : Int32) = 0 from by decide)]
  obtain ⟨p, _, hp, rfl⟩ := in_nat (lo := 0) (hi := 5) c0 (by omega) (by omega)
  obtain ⟨n, hn, e1, e2, e3⟩ := hT.hts p (by omega)
  rw [height_n (by omega), e1, n3, gi_n (by omega) (by omega), nI_clamp (by omega), e2]
  by_cases c3 : n < 5
  · rw [if_pos (show nI n < 5 from nI_lt (b := 5) c3 (by omega)), if_neg (show ¬ nI n = 5 from fun q => absurd ((nI_eq (b := 5) (by omega) (by omega)).mp q) (by omega))]
    obtain ⟨g, g1, g2⟩ := tries_ex (t.2.2 1) (t.2.2 3)
    have hS : SR (s.1 9) (s.1 10) (s.2.2.1 1) (s.2.2.1 2) (s.2.2.1 3) (t.2.2 1) 1 := hT.2.1
    have hS' : SR (s.1 9) (s.1 10) (s.2.2.1 1) (s.2.2.1 2) (s.2.2.1 3) g 1 := hS.cong (fun j _ _ => g2 j (by omega))
    obtain ⟨h', k', t', w'', r1, r2, r3, r4⟩ := raise_eq (p := p) (n := n) (kd := p2) (tl := sp_X7_tiltBuilt p3 (s.1 9)) (by omega) hS'.hs c3 e1 (tb_bt hT.boff)
    have ew1 : (if p3 = 1 then 0 else t.2.2 1 1) = sp_X7_tiltBuilt p3 (s.1 9) := by unfold sp_X7_tiltBuilt; rw [← hT.off]
    rw [g1]
    simp only [Option.bind_some, lt_, cl_1]
    rw [ew1, r1, r2]
    simp only [Option.bind_some]
    rw [height_n (by omega)]
    obtain ⟨a, ha, a1, a2, _⟩ := r3 p (by omega)
    rw [a1, a2]
    exact ⟨_, _, _, rfl, rfl, hT, hK, hC, hF, hX⟩
  · obtain rfl : n = 5 := by omega
    rw [if_neg (show ¬ nI 5 < 5 from by decide), if_pos (show nI 5 = 5 from rfl)]
    exact ⟨_, _, _, rfl, rfl, hT, hK, hC, hF, hX⟩
theorem goOn_eq {kd off : Int32} {m y : Nat} {pulls w : Nat → Int32} (hm : m ≤ 99) (hy : y ≤ 9999) (ho : bt off) (hbp : ∀ i : Nat, i < 6 → bt (pulls i)) (h : PS kd off y pulls w) : ∃ (r : Int32 × Int32 × Int32) (r' : Int32 × (Nat → Int32)) (y' : Nat), lp_X6_goOn_2 (nI m) kd pulls FU 0 off (nI y) = some r ∧ lp_X8_year_23 (nI m) FU 0 w = some r' ∧ y' ≤ 9999 ∧ r.2.2 = nI y' ∧ bt r.2.1 ∧ PS kd r.2.1 y' pulls r'.2 ∧ ∀ j : Nat, j ≠ 1 → j ≠ 2 → r'.2 j = w j := by
  obtain ⟨r, r', e1, e2, y', q⟩ := lk (L := fun fu (s : Int32 × Int32 × Int32) => lp_X6_goOn_2 (nI m) kd pulls fu s.1 s.2.1 s.2.2) (M := fun fu (s : Int32 × (Nat → Int32)) => lp_X8_year_23 (nI m) fu s.1 s.2)
    (fun d s s' => s.1 = s'.1 ∧ ∃ i y' : Nat, i + d = m ∧ y' ≤ 9999 ∧ s.1 = nI i ∧ s.2.2 = nI y' ∧ bt s.2.1 ∧ PS kd s.2.1 y' pulls s'.2 ∧ ∀ j : Nat, j ≠ 1 → j ≠ 2 → s'.2 j = w j)
    (fun r r' => ∃ y' : Nat, y' ≤ 9999 ∧ r.2.2 = nI y' ∧ bt r.2.1 ∧ PS kd r.2.1 y' pulls r'.2 ∧ ∀ j : Nat, j ≠ 1 → j ≠ 2 → r'.2 j = w j) (by
    rintro d fu ⟨x, o, z⟩ ⟨x', u⟩ hd ⟨rfl, i, y', hi, hy', ex, ez, hb, hp, hj⟩
    simp only at ex ez hb hp hj
    subst ex; subst ez
    dsimp only
    rw [lp_X6_goOn_2, lp_X8_year_23]
    simp only [cl_2]
    rw [hp.2.2.1]
    cases d with
    | zero =>
      obtain rfl : i = m := by omega
      rw [if_pos (Int32.le_refl _), if_pos (Int32.le_refl _)]
      exact Or.inl ⟨_, _, rfl, rfl, y', hy', rfl, hb, hp, hj⟩
    | succ d =>
      rw [if_neg (nI_ge (by omega) (by omega)), if_neg (nI_ge (by omega) (by omega))]
      by_cases c : y' < 9999
      · obtain ⟨u', u1, u2, u3⟩ := hp.pass (by omega)
        rw [if_neg (show ¬ (9999 : Int32) ≤ nI _ from nI_ge (b := 9999) c (by omega)), if_neg (show ¬ (9999 : Int32) ≤ nI _ from nI_ge (b := 9999) c (by omega)), u1, nI_1, nI_1]
        exact Or.inr ⟨d, (_, _, _), (_, _), rfl, rfl, rfl, rfl, i + 1, y' + 1, by omega, by omega, rfl, rfl, bt_offBehind (k := kd) (by omega) hb hbp, u2, fun j h1 h2 => (u3 j h1 h2).trans (hj j h1 h2)⟩
      · obtain rfl : y' = 9999 := by omega
        rw [if_pos (show (9999 : Int32) ≤ nI 9999 from by decide), if_pos (show (9999 : Int32) ≤ nI 9999 from by decide)]
        exact Or.inl ⟨_, _, rfl, rfl, 9999, hy', rfl, hb, hp, hj⟩) m FU (nI 0, off, nI y) (nI 0, w) (by rw [FU_eq]; omega) ⟨rfl, 0, y, by omega, hy, rfl, rfl, ho, h, fun j _ _ => rfl⟩
  exact ⟨r, r', y', e1, e2, q⟩
theorem st_year (p1 : Int32) (s : CSt) (t : MSt) (h : REL s t) : ∃ (r : Int32) (s1 : CSt) (t1 : MSt), S7_year p1 s = some (r, s1) ∧ S8_year p1 t = some (r, t1) ∧ REL s1 t1 := by
  obtain ⟨hT, hK, hC, hF, hX⟩ := h
  unfold S7_year S8_year sp_X7_year sp_X8_year
  by_cases c0 : sp_X8_in p1 1 99 = 0
  · rw [if_pos (show sp_X2_within p1 1 99 = 0 from c0), if_pos c0]
    exact ⟨_, _, _, rfl, rfl, hT, hK, hC.bad rfl rfl rfl rfl rfl rfl, hF, hX⟩
  · rw [if_neg (show ¬ sp_X2_within p1 1 99 = 0 from c0), if_neg c0]
    obtain ⟨m, _, hm, rfl⟩ := in_nat (lo := 1) (hi := 99) c0 (by omega) (by omega)
    obtain ⟨np, hnp, p1', p2', p3'⟩ := hT.pasts
    have hS : SR (s.1 9) (s.1 10) (s.2.2.1 1) (s.2.2.1 2) (s.2.2.1 3) (t.2.2 1) 1 := hT.2.1
    obtain ⟨z, w', k1, k2, k3, k4⟩ := keep_eq (A := s.2.2.2.2.2.2 0) (B := s.2.2.2.2.2.2 1) (C := s.2.2.2.2.2.2 2) (D := s.2.2.2.2.2.2 3) hnp p2' hS p3'
    obtain ⟨y, hy, y1, y2⟩ := hT.year
    obtain ⟨r, r', y', f1, f2, f3, f4, f5, f6, f7⟩ := goOn_eq (w := w') hm hy hT.boff hT.bpulls (hT.ps y2 k4)
    rw [p1', k1, k2]
    simp only [Option.bind_some, cl_1]
    unfold sp_X6_goOn
    rw [y1, f1, f2]
    simp only [Option.bind_some]
    refine stp rfl rfl (by show r'.2 1 = r.2.1; rw [f6.2.1]) ?_ hK hC hF hX
    have hl2 : ∀ j : Nat, j ≠ 1 → j ≠ 2 → j < 137 → r'.2 j = t.2.2 1 j := fun j h1 h2 h3 => by rw [f7 j h1 h2, k4 j h3]
    obtain ⟨h1, h2, h3, h4, h5, h6, h7⟩ := hT
    show TR (s.1 4) z.1 (s.1 6) (s.1 7) (s.1 8) r.2.1 r.2.2 (s.2.2.1 0) (s.2.2.1 1) (s.2.2.1 2) (s.2.2.1 3) (s.2.2.1 4) (s.2.2.1 5) (s.2.2.1 6) z.2.2.2.2.2.1 z.2.2.2.2.2.2.1 z.2.2.2.2.2.2.2.1 z.2.2.2.2.2.2.2.2.1 z.2.2.2.2.2.2.2.2.2 r'.2 0
    refine ⟨f6.1.symm, ⟨f6.2.1.symm, f5, ⟨y', f3, f4, f6.2.2.1⟩, fun p hp => ?_⟩, h3.cong (fun j _ _ => hl2 j (by omega) (by omega) (by omega)), h4.cong (fun j _ _ => hl2 j (by omega) (by omega) (by omega)), h5.cong (fun j _ _ => hl2 j (by omega) (by omega) (by omega)), h6.cong (fun j _ _ => hl2 j (by omega) (by omega) (by omega)), k3.cong (fun j _ _ => f7 j (by omega) (by omega))⟩
    obtain ⟨a, a1, a2, a3, a4⟩ := h2.2.2.2 p hp
    refine ⟨a, a1, a2, by rw [hl2 _ (by omega) (by omega) (by omega)]; exact a3, fun i hi => ?_⟩
    obtain ⟨b1, b2, b3⟩ := a4 i hi
    exact ⟨by rw [hl2 _ (by omega) (by omega) (by omega)]; exact b1, by rw [hl2 _ (by omega) (by omega) (by omega)]; exact b2, b3⟩
theorem st_undo (s : CSt) (t : MSt) (h : REL s t) : ∃ (r : Int32) (s1 : CSt) (t1 : MSt), S7_undo s = some (r, s1) ∧ S8_undo t = some (r, t1) ∧ REL s1 t1 := by
  obtain ⟨hT, hK, hC, hF, hX⟩ := h
  unfold S7_undo S8_undo sp_X7_undo sp_X8_undo
  obtain ⟨n, hn, p1, p2, p3⟩ := hT.pasts
  simp only [cl_137, cl_2]
  rw [p2]
  by_cases c : n = 0
  · subst c
    rw [p1, if_neg (show ¬ (0 : Int32) < nI 0 from by decide), if_pos (show nI 0 = 0 from rfl)]
    refine ⟨_, _, _, rfl, rfl, ?_, hK, ⟨hC.1, congrArg (· + 1) hC.2.1, hC.2.2⟩, hF, hX⟩
    have : TT s t := hT
    unfold TT at this
    rw [p1] at this
    exact this
  · obtain ⟨m, rfl⟩ : ∃ m, n = m + 1 := ⟨n - 1, by omega⟩
    rw [p1, if_pos (show (0 : Int32) < nI (m + 1) from nI_lt (a := 0) (by omega) (by omega)), if_neg (nI_ne0 (by omega) (by omega))]
    unfold sp_X6_stepBack
    rw [gi_n (by omega) (by omega), if_neg (nI_ne0 (by omega) (by omega)), nI_pred, nI_clamp (by omega), Nat.add_sub_cancel, upd_s]
    obtain ⟨g, g1, g2, g3⟩ := cops (n0 := 682) (a := 138 + 68 * m) (b := 1) (N := 68) (f := upd (t.2.2 1) 137 (nI m)) (by omega) (by omega) (by omega) (by omega) (by omega)
    have e : (138 : Int32) + 68 * nI m = nI (138 + 68 * m) := by rw [show (68 : Int32) * nI m = nI (68 * m) from pk_mul 68 m]; exact nI_add 138 _
    have g1 : sp_X8_copies_s 682 (nI (138 + 68 * m)) 1 68 (upd (t.2.2 1) 137 (nI m)) = some g := g1
    rw [e, g1]
    simp only [Option.bind_some]
    have hSm := p3 m (by omega)
    have hS' : SR (s.2.2.2.1 0 m) (s.2.2.2.1 1 m) (s.2.2.2.2.1 0 m) (s.2.2.2.2.1 1 m) (s.2.2.2.2.1 2 m) g 1 := hSm.move (fun j hj => by rw [g2 j hj, upd_o (by omega)])
    have o : ∀ j : Nat, j ≠ 137 → (j < 1 ∨ 69 ≤ j) → g j = t.2.2 1 j := fun j h1 h2 => by rw [g3 j (by omega), upd_o h1]
    obtain ⟨y, hy, y1, y2⟩ := hS'.2.2.1
    refine stp rfl rfl (by show g 2 = s.2.2.2.1 1 m; rw [y1]; exact y2) ?_ hK hC hF hX
    obtain ⟨h1, h2, h3, h4, h5, h6, h7⟩ := hT
    show TR (s.1 4) (nI m) (s.1 6) (s.1 7) (s.1 8) (s.2.2.2.1 0 m) (s.2.2.2.1 1 m) (s.2.2.1 0) (s.2.2.2.2.1 0 m) (s.2.2.2.2.1 1 m) (s.2.2.2.2.1 2 m) (s.2.2.1 4) (s.2.2.1 5) (s.2.2.1 6) (s.2.2.2.1 0) (s.2.2.2.1 1) (s.2.2.2.2.1 0) (s.2.2.2.2.1 1) (s.2.2.2.2.1 2) g 0
    refine ⟨h1.trans (o 0 (by omega) (by omega)).symm, hS', h3.cong (fun j _ _ => o j (by omega) (by omega)), h4.cong (fun j _ _ => o j (by omega) (by omega)), h5.cong (fun j _ _ => o j (by omega) (by omega)), h6.cong (fun j _ _ => o j (by omega) (by omega)), ⟨m, by omega, rfl, (g3 137 (by omega)).trans upd_s, fun i hi => ?_⟩⟩
    rw [Nat.zero_add]
    exact (p3 i (by omega)).cong (fun j _ _ => o j (by omega) (by omega))
