/-! pure: reading a town whole -/
theorem DR.pl {kd off year : Int32} {pulls pulls' h k t u u' : Nat → Int32} {a : Nat} (H : DR kd off year pulls h k t u a) (hP : ∀ i : Nat, i < 6 → pulls' i = u' (69 + i) ∧ bt (pulls' i)) (e : ∀ j : Nat, j < 69 ∨ 75 ≤ j → u' j = u j) : DR kd off year pulls' h k t u' a := by
  obtain ⟨h1, h2, h3, ⟨y, y1, y2, y3⟩, h5, h6, h7, h8, h9, h10⟩ := H
  exact ⟨h1.trans (e 0 (by omega)).symm, h2.trans (e 1 (by omega)).symm, h3, ⟨y, y1, y2, (e 2 (by omega)).trans y3⟩, h5.cong (fun j _ _ => e j (by omega)), hP, (e _ (by omega)).trans h7, (e _ (by omega)).trans h8, (e _ (by omega)).trans h9, (e _ (by omega)).trans h10⟩
theorem DR.st {kd off year : Int32} {pulls h k t u h' k' t' u' : Nat → Int32} {a : Nat} (H : DR kd off year pulls h k t u a) (hS : HS h' k' t' u') (e : ∀ j : Nat, j < 3 ∨ 69 ≤ j → u' j = u j) : DR kd off year pulls h' k' t' u' a := by
  obtain ⟨h1, h2, h3, ⟨y, y1, y2, y3⟩, h5, h6, h7, h8, h9, h10⟩ := H
  exact ⟨h1.trans (e 0 (by omega)).symm, h2.trans (e 1 (by omega)).symm, h3, ⟨y, y1, y2, (e 2 (by omega)).trans y3⟩, hS, fun i hi => ⟨(h6 i hi).1.trans (e _ (by omega)).symm, (h6 i hi).2⟩, (e _ (by omega)).trans h7, (e _ (by omega)).trans h8, (e _ (by omega)).trans h9, (e _ (by omega)).trans h10⟩
theorem ritem_eq {n p p2 q lim : Nat} {kd off year fa v : Int32} {pulls h k t u : Nat → Int32} {B : Nat → Nat} {fb ft : Nat → Int32} (T : TX n B fb ft) (R : RU n B 32 32 p q) (R' : RU n B 32 32 p2 q) (D : DR kd off year pulls h k t u lim) (hlim : lim + 99 ≤ 9999) : ∃ tok bh v' : Int32, sp_X5_advance (nI n) (nI p) v fb = some (tok, nI q, bh, v') ∧ (tok = 0 ↔ q = n) ∧ ∃ (z : Int32 × Int32 × Int32 × Int32 × Int32 × Int32 × Int32 × (Nat → Int32) × (Nat → Int32) × (Nat → Int32) × (Nat → Int32)) (w : Int32 × Int32 × Int32 × Int32 × (Nat → Int32)), sp_X5_readItem (nI n) tok (nI q) bh v' fb kd off year pulls h k t = some z ∧ sp_X8_readsItem 0 (nI n) (nI p2) 1 fa ft u = some w ∧
    ((z.1 = 0 ∧ ∃ q' a : Nat, q' ≤ n ∧ a ≤ n ∧ z.2.2.1 = nI q' ∧ w.1 = nI a ∧ w.2.2.1 = 0 ∧ w.2.2.2.1 = nI q') ∨
     (z.1 = 1 ∧ ∃ p' : Nat, q + 2 ≤ p' ∧ p' ≤ n ∧ z.2.2.2.1 = nI p' ∧ w.1 = nI p' ∧ w.2.2.1 = 1 ∧ w.2.2.2.1 = fa ∧ DR kd z.2.2.2.2.2.1 z.2.2.2.2.2.2.1 z.2.2.2.2.2.2.2.2.2.2 z.2.2.2.2.2.2.2.1 z.2.2.2.2.2.2.2.2.1 z.2.2.2.2.2.2.2.2.2.1 w.2.2.2.2 (lim + 99))) := by
  obtain ⟨tok, bh, v', x, r, c, e1, e2, e3, hqr, hr, c5, e4, e5, e6⟩ := item_eq (v := v) T R R'
  refine ⟨tok, bh, v', e1, e2, ?_⟩
  unfold sp_X5_readItem sp_X8_readsItem
  rw [e3]
  simp only [Option.bind_some]
  have hc : c = 0 ∨ c = 1 ∨ c = 2 ∨ c = 3 ∨ c = 4 ∨ c = 5 := by omega
  rcases hc with rfl | rfl | rfl | rfl | rfl | rfl
  · have w1 : sp_X5_isWord 1 tok (nI q) bh fb = some 0 := by rw [e6 1 (by omega), if_neg (by omega)]
    have w2 : sp_X5_isWord 2 tok (nI q) bh fb = some 0 := by rw [e6 2 (by omega), if_neg (by omega)]
    have w3 : sp_X5_isWord 3 tok (nI q) bh fb = some 0 := by rw [e6 3 (by omega), if_neg (by omega)]
    have w4 : sp_X5_isWord 4 tok (nI q) bh fb = some 0 := by rw [e6 4 (by omega), if_neg (by omega)]
    rw [e4, w1, w2, w3, w4, show (if nI 0 = (1 : Int32) then (1 : Int32) else 0) = 0 from by decide]
    simp only [Option.bind_some]
    rw [if_pos trivial, if_pos trivial, if_pos trivial, if_pos trivial]
    exact ⟨_, _, rfl, rfl, Or.inl ⟨rfl, q, r, R.2.1, hr, rfl, rfl, rfl, rfl⟩⟩
  · have w1 : sp_X5_isWord 1 tok (nI q) bh fb = some 0 := by rw [e6 1 (by omega), if_neg (by omega)]
    have w2 : sp_X5_isWord 2 tok (nI q) bh fb = some 0 := by rw [e6 2 (by omega), if_neg (by omega)]
    have w3 : sp_X5_isWord 3 tok (nI q) bh fb = some 0 := by rw [e6 3 (by omega), if_neg (by omega)]
    have w4 : sp_X5_isWord 4 tok (nI q) bh fb = some 0 := by rw [e6 4 (by omega), if_neg (by omega)]
    rw [e4, w1, w2, w3, w4, show (if nI 1 = (1 : Int32) then (1 : Int32) else 0) = 1 from by decide]
    simp only [Option.bind_some]
    rw [if_pos trivial, if_pos trivial, if_pos trivial, if_pos trivial]
    exact ⟨_, _, rfl, rfl, Or.inl ⟨rfl, q, r, R.2.1, hr, rfl, rfl, rfl, rfl⟩⟩
  · have w1 : sp_X5_isWord 1 tok (nI q) bh fb = some 1 := by rw [e6 1 (by omega), if_pos (by omega)]
    obtain ⟨hlt, hbh⟩ := e5 (by omega)
    obtain ⟨z, y, f1, f2, f3⟩ := pulls_eq (tok := tok) (st := nI q) (bh := bh) (v := v') (st8 := nI q) (fa := fa) T hr D.2.2.2.2.2.1
    rw [e4, w1, show (if nI 2 = (1 : Int32) then (1 : Int32) else 0) = 0 from by decide, hbh]
    simp only [Option.bind_some, lt_]
    rw [if_neg (show ¬ (1 : Int32) = 0 from by decide), if_pos trivial, if_neg (show ¬ nI 2 = 0 from by decide), if_neg (show ¬ nI 2 = 1 from by decide), if_pos (show nI 2 = 2 from rfl), f1, f2]
    simp only [Option.bind_some]
    obtain ⟨y1, y2, y3, y4, y5⟩ := y
    rcases f3 with ⟨g1, g2, q', a, g3, g4, g5, g6, g7⟩ | ⟨g1, g2, g3, ⟨q', g4, g5, g6, R2, g7, g8⟩, g9, g10⟩
    · simp only at g2 g6 g7
      subst g2; subst g6; subst g7
      obtain ⟨q3, R3⟩ := RU_of n B 32 32 g4
      rw [dead_ends T R3, gd_t (Or.inl g1)]
      exact ⟨_, _, rfl, rfl, Or.inl ⟨g1, q', q3, g3, R3.2.1, g5, rfl, rfl, rfl⟩⟩
    · simp only at g2 g3 g8 g9 g10
      subst g2; subst g3; subst g8
      rw [(stop_yes (fa := y4) (v := 0) T R2 R2 ⟨g5, g6⟩).2, gd_t (Or.inr g1)]
      exact ⟨_, _, rfl, rfl, Or.inr ⟨g1, q' + 1, by omega, by omega, g7, rfl, rfl, rfl, (D.pl g9 g10).mono (by omega)⟩⟩
  · have w1 : sp_X5_isWord 1 tok (nI q) bh fb = some 0 := by rw [e6 1 (by omega), if_neg (by omega)]
    have w2 : sp_X5_isWord 2 tok (nI q) bh fb = some 1 := by rw [e6 2 (by omega), if_pos (by omega)]
    obtain ⟨hlt, hbh⟩ := e5 (by omega)
    obtain ⟨z, y, f1, f2, f3⟩ := building_eq (tl := off) (fl := 0) (fa := fa) (v := v') T hr D.2.2.2.2.1 D.2.2.1 ((if_pos rfl).trans D.2.1.symm)
    rw [e4, w1, w2, show (if nI 3 = (1 : Int32) then (1 : Int32) else 0) = 0 from by decide, hbh]
    simp only [Option.bind_some]
    rw [if_pos trivial, if_neg (show ¬ (1 : Int32) = 0 from by decide), f1, show (if nI 3 = (4 : Int32) then (1 : Int32) else 0) = 0 from by decide]
    simp only [Option.bind_some, lt_]
    rw [if_pos trivial, if_neg (show ¬ nI 3 = 0 from by decide), if_neg (show ¬ nI 3 = 1 from by decide), if_neg (show ¬ nI 3 = 2 from by decide), if_neg (show ¬ nI 3 = 5 from by decide), f2]
    simp only [Option.bind_some]
    rcases f3 with ⟨g1, q', a, g3, g4, g5, g6, g7, g8⟩ | ⟨g1, p', g2, g3, g4, g5, g6, g7, g8, g9⟩
    · rw [gd_t (Or.inl g1)]
      exact ⟨_, _, rfl, rfl, Or.inl ⟨g1, q', a, g3, g4, g5, g6, g7, g8⟩⟩
    · rw [gd_t (Or.inr g1)]
      exact ⟨_, _, rfl, rfl, Or.inr ⟨g1, p', by omega, g3, g4, g5, g6, g7, (D.st g8 g9).mono (by omega)⟩⟩
  · have w1 : sp_X5_isWord 1 tok (nI q) bh fb = some 0 := by rw [e6 1 (by omega), if_neg (by omega)]
    have w2 : sp_X5_isWord 2 tok (nI q) bh fb = some 0 := by rw [e6 2 (by omega), if_neg (by omega)]
    have w3 : sp_X5_isWord 3 tok (nI q) bh fb = some 1 := by rw [e6 3 (by omega), if_pos (by omega)]
    obtain ⟨hlt, hbh⟩ := e5 (by omega)
    obtain ⟨z, y, f1, f2, f3⟩ := building_eq (tl := 0) (fl := 1) (fa := fa) (v := v') T hr D.2.2.2.2.1 bt_0 (if_neg (by decide))
    rw [e4, w1, w2, w3, show (if nI 4 = (1 : Int32) then (1 : Int32) else 0) = 0 from by decide, hbh]
    simp only [Option.bind_some]
    rw [if_pos trivial, if_pos trivial, if_neg (show ¬ (1 : Int32) = 0 from by decide), f1, show (if nI 4 = (4 : Int32) then (1 : Int32) else 0) = 1 from by decide]
    simp only [Option.bind_some, lt_]
    rw [if_pos trivial, if_neg (show ¬ nI 4 = 0 from by decide), if_neg (show ¬ nI 4 = 1 from by decide), if_neg (show ¬ nI 4 = 2 from by decide), if_neg (show ¬ nI 4 = 5 from by decide), f2]
    simp only [Option.bind_some]
    rcases f3 with ⟨g1, q', a, g3, g4, g5, g6, g7, g8⟩ | ⟨g1, p', g2, g3, g4, g5, g6, g7, g8, g9⟩
    · rw [gd_t (Or.inl g1)]
      exact ⟨_, _, rfl, rfl, Or.inl ⟨g1, q', a, g3, g4, g5, g6, g7, g8⟩⟩
    · rw [gd_t (Or.inr g1)]
      exact ⟨_, _, rfl, rfl, Or.inr ⟨g1, p', by omega, g3, g4, g5, g6, g7, (D.st g8 g9).mono (by omega)⟩⟩
  · have w1 : sp_X5_isWord 1 tok (nI q) bh fb = some 0 := by rw [e6 1 (by omega), if_neg (by omega)]
    have w2 : sp_X5_isWord 2 tok (nI q) bh fb = some 0 := by rw [e6 2 (by omega), if_neg (by omega)]
    have w3 : sp_X5_isWord 3 tok (nI q) bh fb = some 0 := by rw [e6 3 (by omega), if_neg (by omega)]
    have w4 : sp_X5_isWord 4 tok (nI q) bh fb = some 1 := by rw [e6 4 (by omega), if_pos (by omega)]
    obtain ⟨hlt, hbh⟩ := e5 (by omega)
    obtain ⟨z, y, f1, f2, f3⟩ := years_eq (fa := fa) (v := v') T hr D hlim
    rw [e4, w1, w2, w3, w4, show (if nI 5 = (1 : Int32) then (1 : Int32) else 0) = 0 from by decide, hbh]
    simp only [Option.bind_some]
    rw [if_pos trivial, if_pos trivial, if_pos trivial, if_neg (show ¬ (1 : Int32) = 0 from by decide), f1]
    simp only [Option.bind_some, lt_]
    rw [if_pos trivial, if_neg (show ¬ nI 5 = 0 from by decide), if_neg (show ¬ nI 5 = 1 from by decide), if_neg (show ¬ nI 5 = 2 from by decide), if_pos (show nI 5 = 5 from rfl), f2]
    simp only [Option.bind_some]
    rcases f3 with ⟨g1, q', a, g3, g4, g5, g6, g7, g8⟩ | ⟨g1, p', g2, g3, g4, g5, g6, g7, g8⟩
    · rw [gd_t (Or.inl g1)]
      exact ⟨_, _, rfl, rfl, Or.inl ⟨g1, q', a, g3, g4, g5, g6, g7, g8⟩⟩
    · rw [gd_t (Or.inr g1)]
      exact ⟨_, _, rfl, rfl, Or.inr ⟨g1, p', by omega, g3, g4, g5, g6, g7, g8⟩⟩
theorem begin_eq {kd : Int32} {pulls h : Nat → Int32} : ∃ f g : Nat → Int32, sp_X6_begin kd pulls h = some (kd, 0, 0, 0, 0, f, 0, 0, g) ∧ (∀ i : Nat, i < 6 → f i = 0) ∧ ∀ i : Nat, i < 6 → g i = 0 := by
  obtain ⟨f, f1, f2⟩ := empty_eq (n := 6) (by omega) (f := pulls)
  obtain ⟨g, g1, g2⟩ := empty_eq (n := 6) (by omega) (f := h)
  refine ⟨f, g, ?_, f2, g2⟩
  unfold sp_X6_begin sp_X3_empty
  rw [f1, g1]
  rfl
theorem rtown_eq {n : Nat} {kd pa me nc mc off year fa v : Int32} {pulls h u : Nat → Int32} {B : Nat → Nat} {fb ft : Nat → Int32} (T : TX n B fb ft) (hu : ∀ j : Nat, j < 682 → u j = 0) : ∃ (z : Int32 × Int32 × Int32 × Int32 × Int32 × Int32 × Int32 × Int32 × Int32 × Int32 × (Nat → Int32) × Int32 × Int32 × (Nat → Int32)) (w : Int32 × Int32 × Int32 × Int32 × (Nat → Int32)), sp_X5_readTown (nI n) 0 v fb kd pa me nc mc pulls off year h = some z ∧ sp_X8_readsItem 1 (nI n) 0 1 fa ft u = some w ∧
    ((z.1 = 0 ∧ ∃ q a : Nat, q ≤ n ∧ a ≤ n ∧ z.2.2.1 = nI q ∧ w.1 = nI a ∧ w.2.2.1 = 0 ∧ w.2.2.2.1 = nI q) ∨
     (z.1 = 1 ∧ (∃ p' : Nat, 2 ≤ p' ∧ p' ≤ n ∧ z.2.2.2.1 = nI p' ∧ w.1 = nI p') ∧ w.2.2.1 = 1 ∧ w.2.2.2.1 = fa ∧ z.2.2.2.2.2.2.1 = 0 ∧ z.2.2.2.2.2.2.2.1 = 0 ∧ z.2.2.2.2.2.2.2.2.1 = 0 ∧ z.2.2.2.2.2.2.2.2.2.1 = 0 ∧ ∀ k t : Nat → Int32, DR z.2.2.2.2.2.1 z.2.2.2.2.2.2.2.2.2.2.2.1 z.2.2.2.2.2.2.2.2.2.2.2.2.1 z.2.2.2.2.2.2.2.2.2.2.1 z.2.2.2.2.2.2.2.2.2.2.2.2.2 k t w.2.2.2.2 0)) := by
  have hn := T.1
  obtain ⟨q, R⟩ := RU_of n B 32 32 (show 0 ≤ n by omega)
  obtain ⟨tok, bh, v', x, r, c, e1, e2, e3, hqr, hr, c5, e4, e5, e6⟩ := item_eq (v := v) T R R
  have e1 : sp_X5_advance (nI n) 0 v fb = some (tok, nI q, bh, v') := e1
  have e3 : sp_X8_word (nI n) 0 ft = some (x, nI r, nI q) := e3
  unfold sp_X5_readTown sp_X8_readsItem
  rw [e1, e3]
  simp only [Option.bind_some]
  by_cases c1 : c = 1
  · subst c1
    have w0 : sp_X5_isWord 0 tok (nI q) bh fb = some 1 := by rw [e6 0 (by omega), if_pos (by omega)]
    obtain ⟨hlt, hbh⟩ := e5 (by omega)
    obtain ⟨q2, R2⟩ := RU_of n B 32 32 hr
    obtain ⟨tok2, bh2, v2, f1, _, f3⟩ := num_eq (lo := 0) (hi := 5) (fa := fa) (v := v') T R2 R2 (by omega) (by omega)
    have f1t : sp_X5_takesNumber 0 5 (nI n) (nI r) v' fb = some (sp_X5_isNumber 0 5 tok2 v2, tok2, nI q2, bh2, v2) := by
      unfold sp_X5_takesNumber
      rw [f1]
      rfl
    rw [e4, w0, show (if nI 1 = (1 : Int32) then (1 : Int32) else 0) = 1 from by decide, hbh]
    simp only [Option.bind_some]
    rw [if_neg (show ¬ (1 : Int32) = 0 from by decide), f1t]
    simp only [Option.bind_some, lt_]
    rw [if_pos trivial, if_neg (show ¬ nI 1 = 0 from by decide), if_pos (show nI 1 = 1 from rfl)]
    rcases f3 with ⟨j0, x', a, ha, f4⟩ | ⟨j1, x', r', x1', x2', hqr', hr', hbh', hv', f4⟩
    · have j0 : sp_X5_isNumber 0 5 tok2 v2 = 0 := j0
      have f4 : sp_X8_number 0 5 (nI n) (nI r) 1 fa ft = some (x', nI a, nI q2, 0, nI q2) := f4
      obtain ⟨q3, R3⟩ := RU_of n B 32 32 ha
      rw [j0, f4]
      simp only [Option.bind_some]
      rw [if_pos trivial, dead_ends T R3]
      exact ⟨_, _, rfl, rfl, Or.inl ⟨rfl, q2, q3, R2.2.1, R3.2.1, rfl, rfl, rfl, rfl⟩⟩
    · have j1 : sp_X5_isNumber 0 5 tok2 v2 = 1 := j1
      have f4 : sp_X8_number 0 5 (nI n) (nI r) 1 fa ft = some (nI x', nI r', nI q2, 1, fa) := f4
      obtain ⟨q3, R3⟩ := RU_of n B 32 32 hr'
      obtain ⟨f, g, b1, b2, b3⟩ := begin_eq (kd := nI x') (pulls := pulls) (h := h)
      rw [j1, f4]
      simp only [Option.bind_some]
      rw [if_neg (show ¬ (1 : Int32) = 0 from by decide), hbh', hv', b1]
      simp only [Option.bind_some]
      by_cases cs : q3 < n ∧ B q3 = 59
      · obtain ⟨s1, s2⟩ := stop_yes (fa := fa) (v := nI x') T R3 R3 cs
        rw [s1, s2]
        simp only [Option.bind_some]
        rw [gd_t (Or.inr trivial)]
        refine ⟨_, _, rfl, rfl, Or.inr ⟨rfl, ⟨q3 + 1, by have := R2.1; have := R3.1; omega, by omega, rfl, rfl⟩, rfl, rfl, rfl, rfl, rfl, rfl, fun k t => ?_⟩⟩
        show DR (nI x') 0 0 f g k t (upd u (0 : Int32).toNatClampNeg (nI x')) 0
        rw [cl_0]
        refine ⟨upd_s.symm, ((upd_o (by omega)).trans (hu 1 (by omega))).symm, bt_0, ⟨0, Nat.le_refl _, rfl, (upd_o (by omega)).trans (hu 2 (by omega))⟩, fun p hp => ⟨0, by omega, b3 p hp, (upd_o (by omega)).trans (hu _ (by omega)), fun i hi => absurd hi (by omega)⟩, fun i hi => ⟨(b2 i hi).trans ((upd_o (by omega)).trans (hu _ (by omega))).symm, by rw [b2 i hi]; exact bt_0⟩, (upd_o (by omega)).trans (hu _ (by omega)), (upd_o (by omega)).trans (hu _ (by omega)), (upd_o (by omega)).trans (hu _ (by omega)), (upd_o (by omega)).trans (hu _ (by omega))⟩
      · obtain ⟨⟨t1, t2, t3, s1⟩, s2⟩ := stop_no (fa := fa) (v := nI x') T R3 R3 cs
        rw [s1, s2]
        simp only [Option.bind_some]
        rw [gd_t (Or.inl trivial)]
        exact ⟨_, _, rfl, rfl, Or.inl ⟨rfl, q3, q3, R3.2.1, R3.2.1, rfl, rfl, rfl, rfl⟩⟩
  · have w0 : sp_X5_isWord 0 tok (nI q) bh fb = some 0 := by rw [e6 0 (by omega), if_neg (by omega)]
    rw [e4, w0, show (if nI c = (1 : Int32) then (1 : Int32) else 0) = 0 from if_neg (fun g => c1 ((nI_eq (b := 1) (by omega) (by omega)).mp g))]
    simp only [Option.bind_some, lt_]
    rw [if_pos trivial, if_neg (show ¬ (1 : Int32) = 0 from by decide)]
    exact ⟨_, _, rfl, rfl, Or.inl ⟨rfl, q, r, R.2.1, hr, rfl, rfl, rfl, rfl⟩⟩
