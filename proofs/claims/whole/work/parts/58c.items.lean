/-! pure: reading a town, item by item -/
/-- the draft, in both pictures; so many years at most -/
def DR (kd off year : Int32) (pulls h k t u : Nat → Int32) (lim : Nat) : Prop := kd = u 0 ∧ off = u 1 ∧ bt off ∧ (∃ y : Nat, y ≤ lim ∧ year = nI y ∧ u 2 = nI y) ∧ HS h k t u ∧ (∀ i : Nat, i < 6 → pulls i = u (69 + i) ∧ bt (pulls i)) ∧ u 75 = 0 ∧ u 81 = 0 ∧ u 106 = 0 ∧ u 137 = 0
theorem DR.mono {kd off year : Int32} {pulls h k t u : Nat → Int32} {a b : Nat} (H : DR kd off year pulls h k t u a) (hab : a ≤ b) : DR kd off year pulls h k t u b := by
  obtain ⟨h1, h2, h3, ⟨y, y1, y2⟩, h5⟩ := H
  exact ⟨h1, h2, h3, ⟨y, by omega, y2⟩, h5⟩
theorem DR.ps {kd off year : Int32} {pulls h k t u : Nat → Int32} {a y : Nat} (H : DR kd off year pulls h k t u a) (hy : u 2 = nI y) : PS kd off y pulls u := ⟨H.1.symm, H.2.1.symm, hy, fun i hi => (H.2.2.2.2.2.1 i hi).1⟩
theorem HS.cong {h k t w w' : Nat → Int32} (H : HS h k t w) (e : ∀ j : Nat, 3 ≤ j → j < 69 → w' j = w j) : HS h k t w' := by
  intro p hp
  obtain ⟨n, hn, a1, a2, a3⟩ := H p hp
  refine ⟨n, hn, a1, (e _ (by omega) (by omega)).trans a2, fun i hi => ?_⟩
  obtain ⟨b1, b2, b3⟩ := a3 i hi
  exact ⟨b1.trans (e _ (by omega) (by omega)).symm, b2.trans (e _ (by omega) (by omega)).symm, b3⟩
theorem yrs_dead {z1 : Int32 × Int32 × Int32 × Int32 × Int32} {z2 : Int32 × Int32 × Int32 × Int32} {u : Nat → Int32} (h : z2.2.2.1 = 0) : lp_X8_readsYears_14 z1 z2 FU 0 u = some (0, u) := by
  obtain ⟨f, hf⟩ : ∃ f, FU = f + 1 := ⟨2999, FU_eq⟩
  rw [hf, lp_X8_readsYears_14, if_pos h]
  split <;> rfl
theorem yrs_eq {kd off : Int32} {m y : Nat} {pulls u : Nat → Int32} {z1 : Int32 × Int32 × Int32 × Int32 × Int32} {z2 : Int32 × Int32 × Int32 × Int32} (hm : m ≤ 99) (hy : y + m ≤ 9999) (ho : bt off) (hbp : ∀ i : Nat, i < 6 → bt (pulls i)) (P : PS kd off y pulls u) (hz1 : z1.1 = nI m) (hz2 : z2.2.2.1 = 1) : ∃ (r : Int32 × Int32 × Int32) (r' : Int32 × (Nat → Int32)), lp_X6_goOn_2 (nI m) kd pulls FU 0 off (nI y) = some r ∧ lp_X8_readsYears_14 z1 z2 FU 0 u = some r' ∧ r.2.2 = nI (y + m) ∧ bt r.2.1 ∧ PS kd r.2.1 (y + m) pulls r'.2 ∧ ∀ j : Nat, j ≠ 1 → j ≠ 2 → r'.2 j = u j := by
  obtain ⟨r, r', e1, e2, q⟩ := lk (L := fun fu (s : Int32 × Int32 × Int32) => lp_X6_goOn_2 (nI m) kd pulls fu s.1 s.2.1 s.2.2) (M := fun fu (s : Int32 × (Nat → Int32)) => lp_X8_readsYears_14 z1 z2 fu s.1 s.2)
    (fun d s s' => ∃ i : Nat, i + d = m ∧ s.1 = nI i ∧ s'.1 = nI i ∧ s.2.2 = nI (y + i) ∧ bt s.2.1 ∧ PS kd s.2.1 (y + i) pulls s'.2 ∧ ∀ j : Nat, j ≠ 1 → j ≠ 2 → s'.2 j = u j)
    (fun r r' => r.2.2 = nI (y + m) ∧ bt r.2.1 ∧ PS kd r.2.1 (y + m) pulls r'.2 ∧ ∀ j : Nat, j ≠ 1 → j ≠ 2 → r'.2 j = u j) (by
    rintro d fu ⟨x, o, z⟩ ⟨x', w⟩ hd ⟨i, hi, ex, ex', ez, hb, hp, hj⟩
    simp only at ex ex' ez hb hp hj
    subst ex; subst ex'; subst ez
    dsimp only
    rw [lp_X6_goOn_2, lp_X8_readsYears_14, hz1, hz2]
    cases d with
    | zero =>
      obtain rfl : i = m := by omega
      rw [if_pos (Int32.le_refl _), if_pos (Int32.le_refl _)]
      exact Or.inl ⟨_, _, rfl, rfl, rfl, hb, hp, hj⟩
    | succ d =>
      obtain ⟨u', u1, u2, u3⟩ := hp.pass (by omega)
      rw [if_neg (nI_ge (by omega) (by omega)), if_neg (nI_ge (by omega) (by omega)), if_neg (show ¬ (9999 : Int32) ≤ nI _ from nI_ge (b := 9999) (by omega) (by omega)), if_neg (show ¬ (1 : Int32) = 0 from by decide), u1, nI_1, nI_1]
      exact Or.inr ⟨d, (_, _, _), (_, _), rfl, rfl, rfl, i + 1, by omega, rfl, rfl, rfl, bt_offBehind (k := kd) (by omega) hb hbp, u2, fun j h1 h2 => (u3 j h1 h2).trans (hj j h1 h2)⟩) m FU (nI 0, off, nI y) (nI 0, u) (by rw [FU_eq]; omega) ⟨0, by omega, rfl, rfl, rfl, ho, P, fun j _ _ => rfl⟩
  exact ⟨r, r', e1, e2, q⟩
theorem years_eq {n p lim : Nat} {kd off year fa v : Int32} {pulls h k t u : Nat → Int32} {B : Nat → Nat} {fb ft : Nat → Int32} (T : TX n B fb ft) (hp : p ≤ n) (D : DR kd off year pulls h k t u lim) (hlim : lim + 99 ≤ 9999) : ∃ (z : Int32 × Int32 × Int32 × Int32 × Int32 × Int32 × Int32) (w : Int32 × Int32 × Int32 × Int32 × (Nat → Int32)), sp_X5_readYears (nI n) (nI p) v fb kd off year pulls = some z ∧ sp_X8_readsYears (nI n) (nI p) 1 fa ft u = some w ∧
    ((z.1 = 0 ∧ ∃ q a : Nat, q ≤ n ∧ a ≤ n ∧ z.2.2.1 = nI q ∧ w.1 = nI a ∧ w.2.2.1 = 0 ∧ w.2.2.2.1 = nI q) ∨
     (z.1 = 1 ∧ ∃ p' : Nat, p < p' ∧ p' ≤ n ∧ z.2.2.2.1 = nI p' ∧ w.1 = nI p' ∧ w.2.2.1 = 1 ∧ w.2.2.2.1 = fa ∧ DR kd z.2.2.2.2.2.1 z.2.2.2.2.2.2 pulls h k t w.2.2.2.2 (lim + 99))) := by
  have hn := T.1
  obtain ⟨q, R⟩ := RU_of n B 32 32 hp
  obtain ⟨tok, bh, v', e1, _, e3⟩ := num_eq (lo := 1) (hi := 99) (fa := fa) (v := v) T R R (by omega) (by omega)
  unfold sp_X5_readYears sp_X8_readsYears sp_X5_takesNumber
  rw [e1]
  simp only [Option.bind_some]
  rcases e3 with ⟨i0, x, a, ha, e4⟩ | ⟨i1, x, r, x1, x2, hqr, hr, hb, hv, e4⟩
  · have i0 : sp_X5_isNumber 1 99 tok v' = 0 := i0
    have e4 : sp_X8_number 1 99 (nI n) (nI p) 1 fa ft = some (x, nI a, nI q, 0, nI q) := e4
    obtain ⟨q2, R2⟩ := RU_of n B 32 32 ha
    rw [i0, e4]
    simp only [Option.bind_some]
    rw [if_pos trivial, dead_ends T R2]
    simp only [Option.bind_some]
    rw [yrs_dead rfl]
    exact ⟨_, _, rfl, rfl, Or.inl ⟨rfl, q, q2, R.2.1, R2.2.1, rfl, rfl, rfl, rfl⟩⟩
  · have i1 : sp_X5_isNumber 1 99 tok v' = 1 := i1
    have e4 : sp_X8_number 1 99 (nI n) (nI p) 1 fa ft = some (nI x, nI r, nI q, 1, fa) := e4
    obtain ⟨q2, R2⟩ := RU_of n B 32 32 hr
    rw [i1, e4]
    simp only [Option.bind_some]
    rw [if_neg (show ¬ (1 : Int32) = 0 from by decide), hb]
    by_cases c : q2 < n ∧ B q2 = 59
    · obtain ⟨s1, s2⟩ := stop_yes (fa := fa) (v := v') T R2 R2 c
      obtain ⟨d1, d2, d3, ⟨y, y1, y2, y3⟩, d5, d6, d7⟩ := D
      obtain ⟨g, g', g1, g2, g3, g4, g5, g6⟩ := yrs_eq (kd := kd) (off := off) (m := x) (y := y) (pulls := pulls) (u := u) (z1 := (nI x, nI r, nI q, 1, fa)) (z2 := (nI (q2 + 1), nI q2, 1, fa)) x2 (by omega) d3 (fun i hi => (d6 i hi).2) ⟨d1.symm, d2.symm, y3, fun i hi => (d6 i hi).1⟩ rfl rfl
      rw [s1, s2]
      simp only [Option.bind_some]
      rw [if_neg (show ¬ (1 : Int32) = 0 from by decide), hv, y2]
      unfold sp_X6_goOn
      rw [g1, g2]
      simp only [Option.bind_some]
      refine ⟨_, _, rfl, rfl, Or.inr ⟨rfl, q2 + 1, by have := R.1; have := R2.1; omega, by omega, rfl, rfl, rfl, rfl, ?_⟩⟩
      refine ⟨g5.1.symm, g5.2.1.symm, g4, ⟨y + x, by omega, g3, g5.2.2.1⟩, d5.cong (fun j h1 h2 => g6 j (by omega) (by omega)), fun i hi => ⟨g5.2.2.2 i hi, (d6 i hi).2⟩, ?_⟩
      show g'.2 75 = 0 ∧ g'.2 81 = 0 ∧ g'.2 106 = 0 ∧ g'.2 137 = 0
      rw [g6 75 (by omega) (by omega), g6 81 (by omega) (by omega), g6 106 (by omega) (by omega), g6 137 (by omega) (by omega)]
      exact d7
    · obtain ⟨⟨t1, t2, t3, s1⟩, s2⟩ := stop_no (fa := fa) (v := v') T R2 R2 c
      rw [s1, s2]
      simp only [Option.bind_some]
      rw [if_pos trivial, yrs_dead rfl]
      exact ⟨_, _, rfl, rfl, Or.inl ⟨rfl, q2, q2, R2.2.1, R2.2.1, rfl, rfl, rfl, rfl⟩⟩
theorem building_eq {n p : Nat} {tl fl fa v : Int32} {h k t u : Nat → Int32} {B : Nat → Nat} {fb ft : Nat → Int32} (T : TX n B fb ft) (hp : p ≤ n) (H : HS h k t u) (hb : bt tl) (hfl : (if fl = 0 then u 1 else 0) = tl) : ∃ (z : Int32 × Int32 × Int32 × Int32 × Int32 × (Nat → Int32) × (Nat → Int32) × (Nat → Int32)) (w : Int32 × Int32 × Int32 × Int32 × (Nat → Int32)), sp_X5_readBuilding tl (nI n) (nI p) v fb h k t = some z ∧ sp_X8_readsBuild fl (nI n) (nI p) 1 fa ft u = some w ∧
    ((z.1 = 0 ∧ ∃ q a : Nat, q ≤ n ∧ a ≤ n ∧ z.2.2.1 = nI q ∧ w.1 = nI a ∧ w.2.2.1 = 0 ∧ w.2.2.2.1 = nI q) ∨
     (z.1 = 1 ∧ ∃ p' : Nat, p < p' ∧ p' ≤ n ∧ z.2.2.2.1 = nI p' ∧ w.1 = nI p' ∧ w.2.2.1 = 1 ∧ w.2.2.2.1 = fa ∧ HS z.2.2.2.2.2.1 z.2.2.2.2.2.2.1 z.2.2.2.2.2.2.2 w.2.2.2.2 ∧ ∀ j : Nat, j < 3 ∨ 69 ≤ j → w.2.2.2.2 j = u j)) := by
  have hn := T.1
  obtain ⟨q, R⟩ := RU_of n B 32 32 hp
  obtain ⟨tok, bh, v', e1, _, e3⟩ := num_eq (lo := 0) (hi := 5) (fa := fa) (v := v) T R R (by omega) (by omega)
  have e1t : sp_X5_takesNumber 0 5 (nI n) (nI p) v fb = some (sp_X5_isNumber 0 5 tok v', tok, nI q, bh, v') := by
    unfold sp_X5_takesNumber
    rw [e1]
    rfl
  unfold sp_X5_readBuilding sp_X8_readsBuild
  rw [e1t]
  simp only [Option.bind_some]
  rcases e3 with ⟨i0, x, a, ha, e4⟩ | ⟨i1, x, r, x1, x2, hqr, hr, hbh, hv, e4⟩
  · have i0 : sp_X5_isNumber 0 5 tok v' = 0 := i0
    have e4 : sp_X8_number 0 5 (nI n) (nI p) 1 fa ft = some (x, nI a, nI q, 0, nI q) := e4
    obtain ⟨q2, R2⟩ := RU_of n B 32 32 ha
    rw [i0, e4]
    simp only [Option.bind_some]
    rw [if_pos trivial, if_pos trivial]
    simp only [Option.bind_some]
    rw [dead_num T R2]
    simp only [Option.bind_some]
    rw [dead_ends T R2.end]
    simp only [Option.bind_some]
    rw [if_pos trivial]
    exact ⟨_, _, rfl, rfl, Or.inl ⟨rfl, q, q2, R.2.1, R2.2.1, rfl, rfl, rfl, rfl⟩⟩
  · have i1 : sp_X5_isNumber 0 5 tok v' = 1 := i1
    have e4 : sp_X8_number 0 5 (nI n) (nI p) 1 fa ft = some (nI x, nI r, nI q, 1, fa) := e4
    obtain ⟨m, hm, m1, m2, m3⟩ := H x (by omega)
    obtain ⟨q2, R2⟩ := RU_of n B 32 32 hr
    rw [i1, e4]
    simp only [Option.bind_some]
    rw [if_neg (show ¬ (1 : Int32) = 0 from by decide), hv, height_n (by omega), m1, if_neg (show ¬ (1 : Int32) = 0 from by decide), n3, gi_n (by omega) (by omega), nI_clamp (by omega), m2]
    by_cases c5 : m < 5
    · rw [if_pos (show nI m < 5 from nI_lt (b := 5) c5 (by omega)), if_neg (show ¬ nI m = 5 from fun g => absurd ((nI_eq (b := 5) (by omega) (by omega)).mp g) (by omega)), hbh]
      obtain ⟨tok2, bh2, v2, f1, _, f3⟩ := num_eq (lo := 0) (hi := 5) (fa := fa) (v := nI x) T R2 R2 (by omega) (by omega)
      have f1t : sp_X5_takesNumber 0 5 (nI n) (nI r) (nI x) fb = some (sp_X5_isNumber 0 5 tok2 v2, tok2, nI q2, bh2, v2) := by
        unfold sp_X5_takesNumber
        rw [f1]
        rfl
      rw [f1t]
      simp only [Option.bind_some]
      rcases f3 with ⟨j0, x', a, ha, f4⟩ | ⟨j1, x', r', x1', x2', hqr', hr', hbh', hv', f4⟩
      · have j0 : sp_X5_isNumber 0 5 tok2 v2 = 0 := j0
        have f4 : sp_X8_number 0 5 (nI n) (nI r) 1 fa ft = some (x', nI a, nI q2, 0, nI q2) := f4
        obtain ⟨q3, R3⟩ := RU_of n B 32 32 ha
        rw [j0, f4]
        simp only [Option.bind_some]
        rw [if_pos trivial, dead_ends T R3]
        simp only [Option.bind_some]
        rw [if_pos trivial]
        exact ⟨_, _, rfl, rfl, Or.inl ⟨rfl, q2, q3, R2.2.1, R3.2.1, rfl, rfl, rfl, rfl⟩⟩
      · have j1 : sp_X5_isNumber 0 5 tok2 v2 = 1 := j1
        have f4 : sp_X8_number 0 5 (nI n) (nI r) 1 fa ft = some (nI x', nI r', nI q2, 1, fa) := f4
        obtain ⟨q3, R3⟩ := RU_of n B 32 32 hr'
        rw [j1, f4]
        simp only [Option.bind_some]
        rw [if_neg (show ¬ (1 : Int32) = 0 from by decide), hbh', hv']
        by_cases c : q3 < n ∧ B q3 = 59
        · obtain ⟨s1, s2⟩ := stop_yes (fa := fa) (v := nI x') T R3 R3 c
          obtain ⟨h', k', t', w', r1, r2, r3, r4⟩ := raise_eq (p := x) (n := m) (kd := nI x') (tl := tl) (by omega) H c5 m1 hb
          rw [s1, s2]
          simp only [Option.bind_some, lt_, cl_1]
          rw [if_neg (show ¬ (1 : Int32) = 0 from by decide), if_neg (show ¬ (1 : Int32) = 0 from by decide), hfl, r1, r2]
          simp only [Option.bind_some]
          exact ⟨_, _, rfl, rfl, Or.inr ⟨rfl, q3 + 1, by have := R.1; have := R2.1; have := R3.1; omega, by omega, rfl, rfl, rfl, rfl, r3, fun j hj => r4 j (by omega) (by omega)⟩⟩
        · obtain ⟨⟨t1, t2, t3, s1⟩, s2⟩ := stop_no (fa := fa) (v := nI x') T R3 R3 c
          rw [s1, s2]
          simp only [Option.bind_some]
          rw [if_pos trivial, if_pos trivial]
          exact ⟨_, _, rfl, rfl, Or.inl ⟨rfl, q3, q3, R3.2.1, R3.2.1, rfl, rfl, rfl, rfl⟩⟩
    · obtain rfl : m = 5 := by omega
      have hf : lt_ (sp_X8_fails (nI q) 1 fa) (fun z7 => some (z7.1, z7.2)) = some (0, nI q) := rfl
      rw [if_neg (show ¬ nI 5 < 5 from by decide), if_pos (show nI 5 = 5 from rfl), hf]
      simp only [Option.bind_some]
      rw [dead_num T R2]
      simp only [Option.bind_some]
      rw [dead_ends T R2.end]
      simp only [Option.bind_some]
      rw [if_pos trivial]
      exact ⟨_, _, rfl, rfl, Or.inl ⟨rfl, q, q2, R.2.1, R2.2.1, rfl, rfl, rfl, rfl⟩⟩
