/-! pure: a town told by a text -/
theorem read_exit {fu : Nat} {n x1 more at_ st fa : Int32} {ft u : Nat → Int32} : lp_X8_read_21 n ft (fu + 1) x1 more at_ st 0 fa u = some (x1, more, at_, st, 0, fa, u) := by
  rw [lp_X8_read_21, if_pos (show (0 : Int32) = 0 from rfl)]
  split <;> rfl
/-- an item that fails, and the model's end -/
theorem read_fail {n a fu : Nat} {p1 x1 at_ st fa : Int32} {w1 w2 q : Int32} {u u' : Nat → Int32} {B : Nat → Nat} {fb ft : Nat → Int32} (T : TX n B fb ft) (hx : (if x1 = 0 then (1 : Int32) else 0) = p1) (e : sp_X8_readsItem p1 (nI n) at_ 1 fa ft u = some (w1, w2, 0, q, u')) (ha : a ≤ n) (hw : w1 = nI a) : ∃ k : Int32 × Int32 × Int32 × Int32 × Int32 × Int32 × (Nat → Int32), lp_X8_read_21 (nI n) ft (fu + 1 + 1) x1 1 at_ st 1 fa u = some k ∧ k.2.2.2.2.1 = 0 ∧ k.2.2.2.2.2.1 = q := by
  obtain ⟨l, l1, _, _⟩ := look_some T ha
  rw [lp_X8_read_21, if_neg (show ¬ (1 : Int32) = 0 from by decide), if_neg (show ¬ (1 : Int32) = 0 from by decide), hx]
  simp only [lt_]
  rw [e]
  simp only [Option.bind_some]
  rw [if_pos trivial]
  simp only [Option.bind_some]
  rw [hw, l1]
  simp only [Option.bind_some]
  rw [read_exit]
  exact ⟨_, rfl, rfl, rfl⟩
/-- an item that is read, and what is looked at behind it -/
theorem read_item {n p q fu : Nat} {p1 x1 at_ st fa : Int32} {w1 w2 : Int32} {u u' : Nat → Int32} {B : Nat → Nat} {fb ft : Nat → Int32} (T : TX n B fb ft) (hx : (if x1 = 0 then (1 : Int32) else 0) = p1) (e : sp_X8_readsItem p1 (nI n) at_ 1 fa ft u = some (w1, w2, 1, fa, u')) (R : RU n B 32 32 p q) (hw : w1 = nI p) : ∃ more : Int32, lp_X8_read_21 (nI n) ft (fu + 1) x1 1 at_ st 1 fa u = lp_X8_read_21 (nI n) ft fu (x1 + 1) more (nI q) (nI q) 1 fa u' ∧ ((q = n ∧ more = 0) ∨ (q ≠ n ∧ more = 1)) := by
  obtain ⟨l, l1, _, l3⟩ := look_some T R.2.1
  refine ⟨if l = -1 then 0 else 1, ?_, ?_⟩
  · rw [lp_X8_read_21, if_neg (show ¬ (1 : Int32) = 0 from by decide), if_neg (show ¬ (1 : Int32) = 0 from by decide), hx]
    simp only [lt_]
    rw [e]
    simp only [Option.bind_some]
    rw [if_neg (show ¬ (1 : Int32) = 0 from by decide), hw, skips8 T R]
    simp only [Option.bind_some]
    rw [l1]
    rfl
  · by_cases c : q = n
    · exact Or.inl ⟨c, if_pos (l3.mpr c)⟩
    · exact Or.inr ⟨c, if_neg (fun h => c (l3.mp h))⟩
theorem into_eq {n : Nat} {kd pa me nc mc off year v fa st8 : Int32} {pulls h k t u : Nat → Int32} {B : Nat → Nat} {fb ft : Nat → Int32} (T : TX n B fb ft) (hu : ∀ j : Nat, j < 682 → u j = 0) : ∃ (z : Int32 × Int32 × Int32 × Int32 × Int32 × Int32 × Int32 × Int32 × Int32 × Int32 × (Nat → Int32) × Int32 × Int32 × (Nat → Int32) × (Nat → Int32) × (Nat → Int32)) (w : Int32 × Int32 × Int32 × Int32 × Int32 × Int32 × (Nat → Int32)), sp_X5_readInto (nI n) v fb kd pa me nc mc pulls off year h k t = some z ∧ lp_X8_read_21 (nI n) ft FU 0 1 0 st8 1 fa u = some w ∧
    ((w.2.2.2.2.1 = 0 ∧ ∃ q : Nat, q ≤ n ∧ z.1 = -10 - nI q ∧ w.2.2.2.2.2.1 = nI q) ∨
     (w.2.2.2.2.1 = 1 ∧ (∃ i : Nat, 1 ≤ i ∧ i ≤ 150 ∧ z.1 = nI i ∧ w.1 = nI i) ∧ DR z.2.2.2.2.2.1 z.2.2.2.2.2.2.2.2.2.2.2.1 z.2.2.2.2.2.2.2.2.2.2.2.2.1 z.2.2.2.2.2.2.2.2.2.2.1 z.2.2.2.2.2.2.2.2.2.2.2.2.2.1 z.2.2.2.2.2.2.2.2.2.2.2.2.2.2.1 z.2.2.2.2.2.2.2.2.2.2.2.2.2.2.2 w.2.2.2.2.2.2 9999 ∧ z.2.2.2.2.2.2.1 = 0 ∧ z.2.2.2.2.2.2.2.1 = 0 ∧ z.2.2.2.2.2.2.2.2.1 = 0 ∧ z.2.2.2.2.2.2.2.2.2.1 = 0)) := by
  have hn := T.1
  obtain ⟨z1, w1, e1, e2, e3⟩ := rtown_eq (kd := kd) (pa := pa) (me := me) (nc := nc) (mc := mc) (off := off) (year := year) (fa := fa) (v := v) (pulls := pulls) (h := h) T hu
  obtain ⟨b1, b2, b3, b4, b5⟩ := w1
  have hF : FU = 2998 + 1 + 1 := FU_eq
  unfold sp_X5_readInto
  rw [e1]
  simp only [Option.bind_some]
  rcases e3 with ⟨g1, q, a, g2, g3, g4, g5, g6, g7⟩ | ⟨g1, ⟨p', g2, g3, g4, g5⟩, g6, g7, g8, g9, g10, g11, g12⟩
  · simp only at g5 g6 g7
    subst g6
    obtain ⟨y, y1, y2, y3⟩ := read_fail (fu := 2998) (st := st8) T (if_pos rfl) e2 g3 g5
    rw [← hF] at y1
    rw [if_pos g1]
    exact ⟨_, y, rfl, y1, Or.inl ⟨y2, q, g2, by rw [g4], by rw [y3, g7]⟩⟩
  · simp only at g5 g6 g7 g12
    subst g6; subst g7
    obtain ⟨q, R⟩ := RU_of n B 32 32 g3
    obtain ⟨more, m1, m2⟩ := read_item (fu := 2999) (st := st8) T (if_pos rfl) e2 R g5
    rw [if_neg (by rw [g1]; decide)]
    obtain ⟨y, w, f1, f2, f3⟩ := lk (L := fun fu (s : Int32 × Int32 × Int32 × Int32 × Int32 × (Nat → Int32) × Int32 × Int32 × (Nat → Int32) × (Nat → Int32) × (Nat → Int32)) => lp_X5_readInto_23 (nI n) fb z1 fu s.1 s.2.1 s.2.2.1 s.2.2.2.1 s.2.2.2.2.1 s.2.2.2.2.2.1 s.2.2.2.2.2.2.1 s.2.2.2.2.2.2.2.1 s.2.2.2.2.2.2.2.2.1 s.2.2.2.2.2.2.2.2.2.1 s.2.2.2.2.2.2.2.2.2.2)
      (M := fun fu (s : Int32 × Int32 × Int32 × Int32 × Int32 × Int32 × (Nat → Int32)) => lp_X8_read_21 (nI n) ft (fu - 1) s.1 s.2.1 s.2.2.1 s.2.2.2.1 s.2.2.2.2.1 s.2.2.2.2.2.1 s.2.2.2.2.2.2)
      (fun d s t => ∃ i p q : Nat, i + d = 200 ∧ 1 ≤ i ∧ i ≤ p ∧ s.1 = nI i ∧ s.2.2.2.1 = nI p ∧ RU n B 32 32 p q ∧ t.1 = nI i ∧ t.2.2.1 = nI q ∧ ((q = n ∧ t.2.1 = 0) ∨ (q ≠ n ∧ t.2.1 = 1)) ∧ t.2.2.2.2.1 = 1 ∧ t.2.2.2.2.2.1 = b4 ∧ DR z1.2.2.2.2.2.1 s.2.2.2.2.2.2.1 s.2.2.2.2.2.2.2.1 s.2.2.2.2.2.1 s.2.2.2.2.2.2.2.2.1 s.2.2.2.2.2.2.2.2.2.1 s.2.2.2.2.2.2.2.2.2.2 t.2.2.2.2.2.2 (50 * p))
      (fun z w => (w.2.2.2.2.1 = 0 ∧ ∃ q : Nat, q ≤ n ∧ z.1 = -10 - nI q ∧ w.2.2.2.2.2.1 = nI q) ∨
     (w.2.2.2.2.1 = 1 ∧ (∃ i : Nat, 1 ≤ i ∧ i ≤ 150 ∧ z.1 = nI i ∧ w.1 = nI i) ∧ DR z.2.2.2.2.2.1 z.2.2.2.2.2.2.2.2.2.2.2.1 z.2.2.2.2.2.2.2.2.2.2.2.2.1 z.2.2.2.2.2.2.2.2.2.2.1 z.2.2.2.2.2.2.2.2.2.2.2.2.2.1 z.2.2.2.2.2.2.2.2.2.2.2.2.2.2.1 z.2.2.2.2.2.2.2.2.2.2.2.2.2.2.2 w.2.2.2.2.2.2 9999 ∧ z.2.2.2.2.2.2.1 = 0 ∧ z.2.2.2.2.2.2.2.1 = 0 ∧ z.2.2.2.2.2.2.2.2.1 = 0 ∧ z.2.2.2.2.2.2.2.2.2.1 = 0)) (by
      rintro d fu ⟨x, tk, sa, ba, va, pu, of, ye, hh, kk, tt⟩ ⟨x', mo, am, sm, we, fl, u'⟩ hd ⟨i, p, q, hid, hi1, hip, ex, eb, R, ex', em, ho, ewe, efl, D⟩
      simp only at ex eb ex' em ho ewe efl D
      subst ex; subst eb; subst ex'; subst em; subst ewe; subst efl
      have hpq := R.1
      have hqn := R.2.1
      obtain ⟨f, rfl⟩ : ∃ f, fu = f + 1 + 1 := ⟨fu - 2, by omega⟩
      dsimp only
      rw [show f + 1 + 1 + 1 - 1 = f + 1 + 1 from rfl, show f + 1 + 1 - 1 = f + 1 from rfl]
      obtain ⟨tok, bh, v', k1, k2, z, y, k3, k4, k5⟩ := ritem_eq (fa := fl) (v := va) T R R.end D (by omega)
      rw [lp_X5_readInto_23, if_neg (show ¬ (150 : Int32) < nI i from nI_nlt (a := 150) (by omega) (by omega)), k1]
      simp only [Option.bind_some]
      rcases ho with ⟨c, rfl⟩ | ⟨c, rfl⟩
      · rw [if_pos (k2.mpr c), lp_X8_read_21, if_pos (show (0 : Int32) = 0 from rfl)]
        exact Or.inl ⟨_, _, rfl, rfl, Or.inr ⟨rfl, ⟨i, hi1, by omega, rfl, rfl⟩, D.mono (by omega), g8, g9, g10, g11⟩⟩
      · rw [if_neg (fun g => c (k2.mp g)), k3]
        simp only [Option.bind_some]
        have hx : (if nI i = 0 then (1 : Int32) else 0) = 0 := if_neg (nI_ne0 (by omega) (by omega))
        obtain ⟨y1, y2, y3, y4, y5⟩ := y
        rcases k5 with ⟨j1, q', a, j2, j3, j4, j5, j6, j7⟩ | ⟨j1, p', j2, j3, j4, j5, j6, j7, j8⟩
        · simp only at j5 j6 j7
          subst j6
          obtain ⟨o, o1, o2, o3⟩ := read_fail (fu := f) (st := sm) T hx k4 j3 j5
          rw [if_pos j1, o1]
          exact Or.inl ⟨_, _, rfl, rfl, Or.inl ⟨o2, q', j2, by rw [j4], by rw [o3, j7]⟩⟩
        · simp only at j5 j6 j7 j8
          subst j6; subst j7
          obtain ⟨q2, R2⟩ := RU_of n B 32 32 j3
          obtain ⟨mo', o1, o2⟩ := read_item (fu := f + 1) (st := sm) T hx k4 R2 j5
          rw [if_neg (by rw [j1]; decide), o1, nI_1]
          exact Or.inr ⟨d - 1, (_, _, _, _, _, _, _, _, _, _, _), (_, _, _, _, _, _, _), by omega, rfl, rfl, i + 1, p', q2, by omega, by omega, by omega, rfl, j4, R2, rfl, rfl, o2, rfl, rfl, j8.mono (by omega)⟩) 199 FU (nI 1, z1.2.1, z1.2.2.1, z1.2.2.2.1, z1.2.2.2.2.1, z1.2.2.2.2.2.2.2.2.2.2.1, z1.2.2.2.2.2.2.2.2.2.2.2.1, z1.2.2.2.2.2.2.2.2.2.2.2.2.1, z1.2.2.2.2.2.2.2.2.2.2.2.2.2, k, t) (nI 1, more, nI q, nI q, 1, b4, b5) (by rw [FU_eq]; omega) ⟨1, p', q, by omega, by omega, by omega, rfl, g4, R, rfl, rfl, m2, rfl, rfl, (g12 k t).mono (by omega)⟩
    refine ⟨y, w, f1, ?_, f3⟩
    have f2 : lp_X8_read_21 (nI n) ft 2999 (nI 1) more (nI q) (nI q) 1 b4 b5 = some w := by
      have : FU - 1 = 2999 := by rw [FU_eq]
      rw [← this]
      exact f2
    rw [show FU = 2999 + 1 from FU_eq, m1]
    exact f2
theorem m10_le {q : Nat} (h : q ≤ 150) : (-10 : Int32) - nI q ≤ 0 := by
  have e10 : ((-10 : Int32)).toInt = -10 := by decide
  have hq := nI_toInt (n := q) (by omega)
  rw [Int32.le_iff_toInt_le, ti_sub (by rw [e10, hq]; omega) (by rw [e10, hq]; omega), e10, hq, ti_0]
  omega
theorem st_read (s : CSt) (t : MSt) (h : REL s t) : ∃ (r : Int32) (s1 : CSt) (t1 : MSt), S7_read s = some (r, s1) ∧ S8_read t = some (r, t1) ∧ REL s1 t1 := by
  obtain ⟨hT, hK, hC, hF, hX⟩ := h
  have hX0 := hX
  obtain ⟨n, hn, x1, x2, x3⟩ := hX0
  have T : TX n (fun j => (t.2.2 0 j).toNatClampNeg) (s.2.2.1 28) (t.2.2 0) := ⟨hn, fun j hj => by
    obtain ⟨a1, b, b1, b2⟩ := x3 j hj
    have e : (t.2.2 0 j).toNatClampNeg = b := by rw [b2, nI_clamp (by omega)]
    show s.2.2.1 28 j = nI (t.2.2 0 j).toNatClampNeg ∧ t.2.2 0 j = nI (t.2.2 0 j).toNatClampNeg ∧ (t.2.2 0 j).toNatClampNeg ≤ 127
    rw [e]
    exact ⟨a1.trans b2, b2, b1⟩⟩
  obtain ⟨g, g1, g2⟩ := empties (f := t.2.2 2)
  obtain ⟨z, w, e1, e2, e3⟩ := into_eq (kd := s.1 11) (pa := s.1 12) (me := s.1 13) (nc := s.1 14) (mc := s.1 15) (off := s.1 16) (year := s.1 17) (v := s.1 36) (fa := t.1 4) (st8 := t.1 2) (pulls := s.2.2.1 7) (h := s.2.2.1 8) (k := s.2.2.1 9) (t := s.2.2.1 10) (u := g) T g2
  unfold S7_read S8_read sp_X7_read sp_X8_read
  rw [x1, x2, e1, g1]
  simp only [Option.bind_some]
  rw [e2]
  simp only [Option.bind_some]
  rcases e3 with ⟨w0, q, hq, z1, w1⟩ | ⟨w0, ⟨i, i1, i2, z1, w1⟩, D, p1, p2, p3, p4⟩
  · rw [if_pos (show z.1 ≤ 0 from by rw [z1]; exact m10_le (by omega)), if_pos w0]
    simp only [Option.bind_some]
    exact stp rfl rfl (by rw [w1]; exact z1.symm) hT hK hC hF hX
  · obtain ⟨c, c1, c2, c3⟩ := copd (n0 := 682) (n2 := 682) (a := 0) (b := 0) (N := 682) (f := w.2.2.2.2.2.2) (g := t.2.2 1) (by omega) (by omega) (by omega) (by omega) (by omega)
    have c1 : sp_X8_copies_d 682 682 0 0 682 w.2.2.2.2.2.2 (t.2.2 1) = some c := c1
    have c2 : ∀ j : Nat, j < 682 → c j = w.2.2.2.2.2.2 j := fun j hj => by
      have := c2 j hj
      rwa [Nat.zero_add] at this
    rw [if_neg (show ¬ z.1 ≤ 0 from by rw [z1]; exact nI_nle (by omega) (by omega)), if_neg (show ¬ w.2.2.2.2.1 = 0 from by rw [w0]; decide), c1]
    unfold sp_X6_copyFrom
    rw [p1, p2, p3, p4, show ∀ x : Option (Int32 × Int32 × Int32 × Int32 × Int32 × (Nat → Int32) × Int32 × Int32 × (Nat → Int32) × (Nat → Int32) × (Nat → Int32) × (Nat → Int32) × (Nat → Int32) × (Nat → Int32) × (Nat → Int32) × (Nat → Int32) × (Nat → Nat → Int32) × (Nat → Nat → Int32) × (Nat → Nat → Int32)), gi 0 9 x = x from fun x => gi_n (a := 0) (by omega) (by omega)]
    simp only [Option.bind_some]
    obtain ⟨d1, d2, d3, ⟨y, y1, y2, y3⟩, d5, d6, d7, d8, d9, d10⟩ := D
    have hN : ∀ (views notes marks pO pY : Nat → Int32) (ph pk pt : Nat → Nat → Int32), TR z.2.2.2.2.2.1 0 0 0 0 z.2.2.2.2.2.2.2.2.2.2.2.1 z.2.2.2.2.2.2.2.2.2.2.2.2.1 z.2.2.2.2.2.2.2.2.2.2.1 z.2.2.2.2.2.2.2.2.2.2.2.2.2.1 z.2.2.2.2.2.2.2.2.2.2.2.2.2.2.1 z.2.2.2.2.2.2.2.2.2.2.2.2.2.2.2 views notes marks pO pY ph pk pt c 0 := fun views notes marks pO pY ph pk pt =>
      ⟨d1.trans (c2 0 (by omega)).symm, ⟨d2.trans (c2 1 (by omega)).symm, d3, ⟨y, y1, y2, (c2 2 (by omega)).trans y3⟩, d5.cong (fun j _ _ => c2 j (by omega))⟩, fun i hi => ⟨(d6 i hi).1.trans (by rw [Nat.zero_add]; exact (c2 (69 + i) (by omega)).symm), (d6 i hi).2⟩, ⟨0, by omega, rfl, (c2 75 (by omega)).trans d7, fun i hi => absurd hi (by omega)⟩, ⟨0, by omega, rfl, (c2 81 (by omega)).trans d8, fun i hi => absurd hi (by omega)⟩, ⟨0, by omega, rfl, (c2 106 (by omega)).trans d9, fun i hi => absurd hi (by omega)⟩, ⟨0, by omega, rfl, (c2 137 (by omega)).trans d10, fun i hi => absurd hi (by omega)⟩⟩
    exact stp rfl rfl (by rw [w1]; exact z1.symm) (hN _ _ _ _ _ _ _ _) hK hC hF hX
