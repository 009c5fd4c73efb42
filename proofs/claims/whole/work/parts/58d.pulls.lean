/-! pure: reading pulls -/
theorem pulls_exit {fu : Nat} {n x1 more at_ st fa : Int32} {ft u : Nat → Int32} (h : more = 0 ∨ more = 1) : lp_X8_readsPulls_4 n ft (fu + 1) x1 more at_ st 0 fa u = some (x1, more, at_, st, 0, fa, u) := by
  rw [lp_X8_readsPulls_4, if_pos (show (0 : Int32) = 0 from rfl)]
  split <;> rfl
theorem more01 (x : Int32) : (if x = 59 then (0 : Int32) else 1) = 0 ∨ (if x = 59 then (0 : Int32) else 1) = 1 := by
  split
  · exact Or.inl rfl
  · exact Or.inr rfl
theorem look_some {n q : Nat} {B : Nat → Nat} {fb ft : Nat → Int32} (T : TX n B fb ft) (hq : q ≤ n) : ∃ x : Int32, sp_X8_look (nI n) (nI q) ft = some x ∧ (x = 59 ↔ q < n ∧ B q = 59) ∧ (x = -1 ↔ q = n) := by
  have hn := T.1
  by_cases c : q < n
  · have h127 := (T.2 q c).2.2
    refine ⟨_, look_lt T c, ⟨fun h => ⟨c, (nI_eq (b := 59) (by omega) (by omega)).mp h⟩, fun h => by rw [h.2]; rfl⟩, fun h => ?_, fun h => by omega⟩
    have := congrArg Int32.toInt h
    rw [nI_toInt (by omega), show ((-1 : Int32)).toInt = -1 from by decide] at this
    omega
  · obtain rfl : q = n := by omega
    exact ⟨_, look_end, ⟨fun h => absurd h (by decide), fun h => absurd h.1 c⟩, fun _ => rfl, fun _ => rfl⟩
theorem pulls_fail {n y m q a fu : Nat} {x st fa : Int32} {u : Nat → Int32} {B : Nat → Nat} {fb ft : Nat → Int32} (T : TX n B fb ft) (hy : y < 6) (e : sp_X8_number 0 18 (nI n) (nI m) 1 fa ft = some (x, nI a, nI q, 0, nI q)) (ha : a ≤ n) : ∃ k : Int32 × Int32 × Int32 × Int32 × Int32 × Int32 × (Nat → Int32), lp_X8_readsPulls_4 (nI n) ft (fu + 1 + 1) (nI y) 1 (nI m) st 1 fa u = some k ∧ k.2.2.2.2.1 = 0 ∧ k.2.2.2.2.2.1 = nI q ∧ ∃ a' : Nat, a' ≤ n ∧ k.2.2.1 = nI a' := by
  obtain ⟨q2, R2⟩ := RU_of n B 32 32 ha
  obtain ⟨l, l1, _, _⟩ := look_some T R2.2.1
  have e69 : (69 : Int32) + nI y = nI (69 + y) := nI_add 69 y
  rw [lp_X8_readsPulls_4, if_neg (show ¬ (1 : Int32) = 0 from by decide), if_neg (show ¬ (1 : Int32) = 0 from by decide), if_neg (show ¬ nI y = 6 from fun g => absurd ((nI_eq (b := 6) (by omega) (by omega)).mp g) (by omega)), e]
  simp only [Option.bind_some]
  rw [if_pos trivial, e69, gi_n (by omega) (by omega)]
  simp only [Option.bind_some]
  rw [gi_n (by omega) (by omega), skips8 T R2]
  simp only [Option.bind_some]
  rw [l1]
  simp only [Option.bind_some, lt_]
  rw [pulls_exit (more01 l)]
  exact ⟨_, rfl, rfl, rfl, q2, R2.2.1, rfl⟩
theorem bt_m9 {x : Nat} (h : x ≤ 18) : bt (nI x - 9) := by
  have e9 : (9 : Int32) = nI 9 := rfl
  unfold bt
  rw [e9, pk_sub_toInt (by omega) (by omega)]
  omega
theorem pulls_eq {n p0 : Nat} {tok st bh v st8 fa : Int32} {pulls u : Nat → Int32} {B : Nat → Nat} {fb ft : Nat → Int32} (T : TX n B fb ft) (hp : p0 ≤ n) (hP : ∀ i : Nat, i < 6 → pulls i = u (69 + i) ∧ bt (pulls i)) : ∃ (z : Int32 × Int32 × Int32 × Int32 × Int32 × (Nat → Int32)) (k : Int32 × Int32 × Int32 × Int32 × (Nat → Int32)), sp_X5_readPulls (nI n) tok st (nI p0) v fb pulls = some z ∧ sp_X8_readsPulls (nI n) (nI p0) st8 1 fa ft u = some k ∧
    ((z.1 = 0 ∧ k.2.2.1 = 0 ∧ ∃ q a : Nat, q ≤ n ∧ a ≤ n ∧ z.2.2.1 = nI q ∧ k.1 = nI a ∧ k.2.2.2.1 = nI q) ∨
     (z.1 = 1 ∧ k.2.2.1 = 1 ∧ k.2.2.2.1 = fa ∧ (∃ q : Nat, p0 ≤ q ∧ q < n ∧ B q = 59 ∧ RU n B 32 32 q q ∧ z.2.2.2.1 = nI (q + 1) ∧ k.1 = nI q) ∧ (∀ i : Nat, i < 6 → z.2.2.2.2.2 i = k.2.2.2.2 (69 + i) ∧ bt (z.2.2.2.2.2 i)) ∧ ∀ j : Nat, j < 69 ∨ 75 ≤ j → k.2.2.2.2 j = u j)) := by
  have hn := T.1
  obtain ⟨z, k, e1, e2, h⟩ := lk (L := fun fu (s : Int32 × Int32 × Int32 × Int32 × Int32 × (Nat → Int32)) => lp_X5_readPulls_2 (nI n) fb fu s.1 s.2.1 s.2.2.1 s.2.2.2.1 s.2.2.2.2.1 s.2.2.2.2.2)
    (M := fun fu (s : Int32 × Int32 × Int32 × Int32 × Int32 × Int32 × (Nat → Int32)) => lp_X8_readsPulls_4 (nI n) ft fu s.1 s.2.1 s.2.2.1 s.2.2.2.1 s.2.2.2.2.1 s.2.2.2.2.2.1 s.2.2.2.2.2.2)
    (fun d s t => ∃ y p q m : Nat, y + d = 7 ∧ y ≤ 6 ∧ s.1 = nI y ∧ s.2.2.2.1 = nI p ∧ p0 ≤ p ∧ RU n B 32 32 p q ∧ RU n B 32 32 m q ∧ t.1 = nI y ∧ t.2.2.1 = nI m ∧ (y = 0 → t.2.1 = 1) ∧ (0 < y → m = q ∧ t.2.2.2.1 = nI q ∧ ((q < n ∧ B q = 59 ∧ t.2.1 = 0) ∨ (¬ (q < n ∧ B q = 59) ∧ t.2.1 = 1))) ∧ t.2.2.2.2.1 = 1 ∧ t.2.2.2.2.2.1 = fa ∧ (∀ i : Nat, i < 6 → s.2.2.2.2.2 i = t.2.2.2.2.2.2 (69 + i) ∧ bt (s.2.2.2.2.2 i)) ∧ ∀ j : Nat, j < 69 ∨ 75 ≤ j → t.2.2.2.2.2.2 j = u j)
    (fun z k => (z.1 = 0 ∧ k.2.2.2.2.1 = 0 ∧ ∃ q a : Nat, q ≤ n ∧ a ≤ n ∧ z.2.2.1 = nI q ∧ k.2.2.1 = nI a ∧ k.2.2.2.2.2.1 = nI q) ∨
     (z.1 = 1 ∧ k.2.2.2.2.1 = 1 ∧ k.2.2.2.2.2.1 = fa ∧ (∃ q : Nat, p0 ≤ q ∧ q < n ∧ B q = 59 ∧ RU n B 32 32 q q ∧ z.2.2.2.1 = nI (q + 1) ∧ k.2.2.1 = nI q) ∧ (∀ i : Nat, i < 6 → z.2.2.2.2.2 i = k.2.2.2.2.2.2 (69 + i) ∧ bt (z.2.2.2.2.2 i)) ∧ ∀ j : Nat, j < 69 ∨ 75 ≤ j → k.2.2.2.2.2.2 j = u j)) (by
    rintro d fu ⟨x, tk, sa, ba, va, pu⟩ ⟨x', mo, am, sm, we, fl, w⟩ hd ⟨y, p, q, m, hyd, hy6, ex, eb, hp0, R, R', ex', em, ho0, ho1, ewe, efl, hP, hj⟩
    simp only at ex eb ex' em ho0 ho1 ewe efl hP hj
    subst ex; subst eb; subst ex'; subst em; subst ewe; subst efl
    have hq0 := R.1
    obtain ⟨f, rfl⟩ : ∃ f, fu = f + 1 := ⟨fu - 1, by omega⟩
    dsimp only
    by_cases c6 : y = 6
    · subst c6
      obtain ⟨rfl, rfl, ho⟩ := ho1 (by omega)
      rw [lp_X5_readPulls_2, if_pos (show (6 : Int32) ≤ nI 6 from Int32.le_refl _)]
      rcases ho with ⟨c1, c2, rfl⟩ | ⟨c, rfl⟩
      · obtain ⟨s1, _⟩ := stop_yes (fa := fl) (v := va) T R R ⟨c1, c2⟩
        rw [s1]
        simp only [Option.bind_some]
        rw [gd_t (Or.inr trivial), lp_X8_readsPulls_4, if_pos (show (0 : Int32) = 0 from rfl)]
        exact Or.inl ⟨_, _, rfl, rfl, Or.inr ⟨rfl, rfl, rfl, ⟨m, by omega, c1, c2, R.end, rfl, rfl⟩, hP, hj⟩⟩
      · obtain ⟨⟨t1, t2, t3, s1⟩, _⟩ := stop_no (fa := fl) (v := va) T R R c
        have hf : lt_ (sp_X8_fails (nI m) 1 fl) (fun z16 => lp_X8_readsPulls_4 (nI n) ft (f + 1) (nI 6) 1 (nI m) (nI m) z16.1 z16.2 w) = lp_X8_readsPulls_4 (nI n) ft (f + 1) (nI 6) 1 (nI m) (nI m) 0 (nI m) w := rfl
        rw [s1]
        simp only [Option.bind_some]
        rw [gd_t (Or.inl trivial), lp_X8_readsPulls_4, if_neg (show ¬ (1 : Int32) = 0 from by decide), if_neg (show ¬ (1 : Int32) = 0 from by decide), if_pos (show nI 6 = 6 from rfl), hf, pulls_exit (Or.inr rfl)]
        exact Or.inl ⟨_, _, rfl, rfl, Or.inl ⟨rfl, rfl, m, m, R.2.1, R.2.1, rfl, rfl, rfl⟩⟩
    · have hy : y < 6 := by omega
      obtain ⟨tok, bh, v', e1, e2, e3⟩ := num_eq (lo := 0) (hi := 18) (fa := fl) (v := va) T R R' (by omega) (by omega)
      rw [lp_X5_readPulls_2, if_neg (show ¬ (6 : Int32) ≤ nI y from nI_ge (b := 6) hy (by omega)), e1]
      simp only [Option.bind_some]
      by_cases c : 0 < y ∧ q < n ∧ B q = 59
      · obtain ⟨cy, cq, cb⟩ := c
        obtain ⟨rfl, rfl, ho⟩ := ho1 cy
        have et : tok = 3 := e2.mp ⟨cq, cb⟩
        rcases ho with ⟨_, _, rfl⟩ | ⟨g, _⟩
        · rw [if_pos et, if_neg (nI_nle cy (by omega)), lp_X8_readsPulls_4, if_pos (show (0 : Int32) = 0 from rfl)]
          have eb : bh = nI (m + 1) := by
            have := adv_stop (v := va) T R cq cb
            rw [e1] at this
            cases this
            rfl
          exact Or.inl ⟨_, _, rfl, rfl, Or.inr ⟨rfl, rfl, rfl, ⟨m, by omega, cq, cb, R.end, eb, rfl⟩, hP, hj⟩⟩
        · exact absurd ⟨cq, cb⟩ g
      · have emo : mo = 1 := by
          by_cases y0 : y = 0
          · exact ho0 y0
          · rcases (ho1 (by omega)).2.2 with ⟨g1, g2, _⟩ | ⟨_, g⟩
            · exact absurd ⟨by omega, g1, g2⟩ c
            · exact g
        subst emo
        have c3 : tok = 3 → nI y ≤ 0 := fun g => by
          have y0 : y = 0 := by
            by_cases y0 : y = 0
            · exact y0
            · exact absurd ⟨by omega, e2.mpr g⟩ c
          rw [y0]; decide
        have eo : ∀ A C : Option (Int32 × Int32 × Int32 × Int32 × Int32 × (Nat → Int32)), (if tok = 3 then (if nI y ≤ 0 then A else C) else A) = A := fun A C => by
          by_cases g : tok = 3
          · rw [if_pos g, if_pos (c3 g)]
          · rw [if_neg g]
        rw [eo]
        rcases e3 with ⟨i0, x, a, ha, e4⟩ | ⟨i1, x, r, x1, x2, hqr, hr, hbh, hv, e4⟩
        · have i0 : sp_X5_isNumber 0 18 tok v' = 0 := i0
          have e4 : sp_X8_number 0 18 (nI n) (nI m) 1 fl ft = some (x, nI a, nI q, 0, nI q) := e4
          obtain ⟨k, k1, k2, k3, a', k4, k5⟩ := pulls_fail (st := sm) (u := w) (fu := f) T hy e4 ha
          rw [if_pos i0, k1]
          exact Or.inl ⟨_, _, rfl, rfl, Or.inl ⟨rfl, k2, q, a', R.2.1, k4, rfl, k5, k3⟩⟩
        · have i1 : sp_X5_isNumber 0 18 tok v' = 1 := i1
          have e4 : sp_X8_number 0 18 (nI n) (nI m) 1 fl ft = some (nI x, nI r, nI q, 1, fl) := e4
          have e69 : (69 : Int32) + nI y = nI (69 + y) := nI_add 69 y
          obtain ⟨q2, R2⟩ := RU_of n B 32 32 hr
          obtain ⟨l, l1, l2, _⟩ := look_some T R2.2.1
          rw [if_neg (by rw [i1]; decide), lp_X8_readsPulls_4, if_neg (show ¬ (1 : Int32) = 0 from by decide), if_neg (show ¬ (1 : Int32) = 0 from by decide), if_neg (show ¬ nI y = 6 from fun g => absurd ((nI_eq (b := 6) (by omega) (by omega)).mp g) (by omega)), e4]
          simp only [Option.bind_some]
          rw [if_neg (show ¬ (1 : Int32) = 0 from by decide), e69]
          simp only [Option.bind_some]
          rw [gi_n (by omega) (by omega), nI_clamp (by omega), skips8 T R2]
          simp only [Option.bind_some]
          rw [l1, put_n hy (by omega), nI_1, hbh, hv]
          simp only [Option.bind_some, lt_]
          refine Or.inr ⟨d - 1, (_, _, _, _, _, _), (_, _, _, _, _, _, _), by omega, rfl, rfl, y + 1, r, q2, q2, by omega, by omega, rfl, rfl, by omega, R2, R2.end, rfl, rfl, fun g => absurd g (by omega), fun _ => ⟨rfl, rfl, ?_⟩, rfl, rfl, fun i hi => ?_, fun j hj' => (upd_o (by omega)).trans (hj j hj')⟩
          · by_cases g : q2 < n ∧ B q2 = 59
            · refine Or.inl ⟨g.1, g.2, ?_⟩
              exact if_pos (l2.mpr g)
            · refine Or.inr ⟨g, ?_⟩
              exact if_neg (fun h => g (l2.mp h))
          · show upd pu y (nI x - 9) i = upd w (69 + y) (nI x - 9) (69 + i) ∧ bt (upd pu y (nI x - 9) i)
            by_cases g : i = y
            · subst g
              rw [upd_s, upd_s]
              exact ⟨rfl, bt_m9 x2⟩
            · rw [upd_o g, upd_o (by omega)]
              exact hP i hi) 7 FU (nI 0, tok, st, nI p0, v, pulls) (nI 0, 1, nI p0, st8, 1, fa, u) (by rw [FU_eq]; omega) (by
      obtain ⟨q, R⟩ := RU_of n B 32 32 hp
      exact ⟨0, p0, q, p0, by omega, by omega, rfl, rfl, Nat.le_refl _, R, R, rfl, rfl, fun _ => rfl, fun g => absurd g (by omega), rfl, rfl, hP, fun _ _ => rfl⟩)
  have e1 : lp_X5_readPulls_2 (nI n) fb FU 0 tok st (nI p0) v pulls = some z := e1
  have e2 : lp_X8_readsPulls_4 (nI n) ft FU 0 1 (nI p0) st8 1 fa u = some k := e2
  refine ⟨z, (k.2.2.1, k.2.2.2.1, k.2.2.2.2.1, k.2.2.2.2.2.1, k.2.2.2.2.2.2), ?_, ?_, h⟩
  · unfold sp_X5_readPulls
    rw [e1]
  · unfold sp_X8_readsPulls
    rw [e2]
    rfl
