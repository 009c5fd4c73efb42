/-! pure: the table of heights, and the model's lines -/
theorem PL.cong {p n : Nat} {k t w w' : Nat → Int32} (hn : n ≤ 5) (H : PL p n k t w) (e : ∀ j : Nat, (j = 3 + p ∨ (9 + 10 * p ≤ j ∧ j < 19 + 10 * p)) → w' j = w j) : PL p n k t w' := by
  refine ⟨(e _ (Or.inl rfl)).trans H.1, fun i hi => ?_⟩
  obtain ⟨g1, g2, g3⟩ := H.2 i hi
  exact ⟨g1.trans (e _ (Or.inr ⟨by omega, by omega⟩)).symm, g2.trans (e _ (Or.inr ⟨by omega, by omega⟩)).symm, g3⟩
theorem raise_pl {p n : Nat} {kd tl : Int32} {h k t w : Nat → Int32} (hp : p < 6) (H : PL p n k t w) (hn : n < 5) (e1 : h p = nI n) (ht : bt tl) : ∃ (m : Nat) (k' t' w' : Nat → Int32), m ≤ 5 ∧ sp_X3_raise (nI p) kd tl h k t = some (upd h p (nI m), k', t') ∧ sp_X8_builds (nI p) kd tl w = some w' ∧ PL p m k' t' w' ∧ ∀ j : Nat, j ≠ 3 + p → (j < 9 + 10 * p ∨ 19 + 10 * p ≤ j) → w' j = w j := by
  obtain ⟨e2, e3⟩ := H
  have x4 : nI p * 5 + nI n = nI (p * 5 + n) := by rw [show nI p * 5 = nI (p * 5) from pk_mul p 5, nI_add]
  have hW : PL p (n + 1) (upd k (p * 5 + n) kd) (upd t (p * 5 + n) tl) (upd (upd (upd w (9 + 10 * p + 2 * n) kd) (9 + 10 * p + 2 * n + 1) tl) (3 + p) (nI (n + 1))) := by
    refine ⟨upd_s, fun i hi => ?_⟩
    by_cases hin : i = n
    · subst hin
      refine ⟨?_, ?_, ?_⟩
      · rw [upd_s, upd_o (by omega), upd_o (by omega), upd_s]
      · rw [upd_s, upd_o (by omega), show 10 + 10 * p + 2 * i = 9 + 10 * p + 2 * i + 1 by omega, upd_s]
      · rw [upd_s]; exact ht
    · obtain ⟨g1, g2, g3⟩ := e3 i (by omega)
      refine ⟨?_, ?_, ?_⟩
      · rw [upd_o (by omega), upd_o (by omega), upd_o (by omega), upd_o (by omega)]; exact g1
      · rw [upd_o (by omega), upd_o (by omega), upd_o (by omega), upd_o (by omega)]; exact g2
      · rw [upd_o (by omega)]; exact g3
  obtain ⟨m, hm, s1, s2⟩ := stand_eq hp (by omega) hW
  obtain ⟨r, r', hh', f1, f2, f3, f4, f5, f6⟩ := fall_eq hp (by omega) hm hW
  have ho : ∀ j : Nat, j ≠ 3 + p → (j < 9 + 10 * p ∨ 19 + 10 * p ≤ j) → r'.2 j = w j := fun j h1 h2 => by
    rw [f6 j h1 h2, upd_o h1, upd_o (by omega), upd_o (by omega)]
  refine ⟨hh', upd k (p * 5 + n) kd, upd t (p * 5 + n) tl, r'.2, by omega, ?_, ?_, f5, ho⟩
  · unfold sp_X3_raise
    rw [height_n hp, e1, if_pos (show nI n < 5 from nI_lt (b := 5) hn (by omega)), x4, put_n (by omega) (by omega), put_n (by omega) (by omega), nI_1]
    simp only [lt_]
    rw [s1]
    simp only [Option.bind_some]
    rw [f1]
    simp only [Option.bind_some]
    rw [f4, put_n hp (by omega)]
  · unfold sp_X8_builds
    rw [n3, gi_n (by omega) (by omega), nI_clamp (by omega), e2, storey_n, gi_n (by omega) (by omega), nI_1, gi_n (by omega) (by omega), nI_clamp (by omega), nI_clamp (by omega)]
    have ew : upd (upd w (9 + 10 * p + 2 * n) kd) (9 + 10 * p + 2 * n + 1) tl (3 + p) = nI n := by rw [upd_o (by omega), upd_o (by omega), e2]
    rw [ew, nI_1, s2]
    simp only [Option.bind_some]
    rw [f2]; rfl
theorem raise_full {p : Nat} {kd tl : Int32} {h k t : Nat → Int32} (hp : p < 6) (hh : h p = nI 5) : sp_X3_raise (nI p) kd tl h k t = some (h, k, t) := by
  unfold sp_X3_raise
  rw [height_n hp, hh, if_neg (show ¬ nI 5 < 5 from by decide)]
/-- a plot behind the first j turns, those of a set built on it -/
noncomputable def TS (K T : Nat → Int32) (p s : Nat) (h k t : Nat → Int32) : Nat → Option ((Nat → Int32) × (Nat → Int32) × (Nat → Int32))
  | 0 => some (h, k, t)
  | j + 1 => Option.bind (TS K T p s h k t j) fun z => if s.testBit j = true then sp_X3_raise (nI p) (K j) (T j) z.1 z.2.1 z.2.2 else some z
theorem TS_cong {K T : Nat → Int32} {p s s' : Nat} {h k t : Nat → Int32} : ∀ j : Nat, (∀ i : Nat, i < j → s.testBit i = s'.testBit i) → TS K T p s h k t j = TS K T p s' h k t j
  | 0, _ => rfl
  | j + 1, e => by
    show (Option.bind (TS K T p s h k t j) fun z => if s.testBit j = true then sp_X3_raise (nI p) (K j) (T j) z.1 z.2.1 z.2.2 else some z) = Option.bind (TS K T p s' h k t j) fun z => if s'.testBit j = true then sp_X3_raise (nI p) (K j) (T j) z.1 z.2.1 z.2.2 else some z
    rw [TS_cong j (fun i hi => e i (by omega)), e j (by omega)]
theorem TS_stay {K T : Nat → Int32} {p s a : Nat} {h k t : Nat → Int32} (e : ∀ i : Nat, a ≤ i → s.testBit i = false) : ∀ d : Nat, TS K T p s h k t (a + d) = TS K T p s h k t a
  | 0 => rfl
  | d + 1 => by
    show (Option.bind (TS K T p s h k t (a + d)) fun z => if s.testBit (a + d) = true then sp_X3_raise (nI p) (K (a + d)) (T (a + d)) z.1 z.2.1 z.2.2 else some z) = _
    rw [TS_stay e d, e (a + d) (by omega)]
    cases TS K T p s h k t a <;> rfl
theorem TS_ok {K T : Nat → Int32} {p s n0 : Nat} {h k t w0 : Nat → Int32} (hp : p < 6) (bT : ∀ j : Nat, bt (T j)) (h0 : h p = nI n0) (hn0 : n0 ≤ 5) (H0 : PL p n0 k t w0) : ∀ j : Nat, ∃ (z : (Nat → Int32) × (Nat → Int32) × (Nat → Int32)) (m : Nat) (w : Nat → Int32), TS K T p s h k t j = some z ∧ z.1 p = nI m ∧ m ≤ 5 ∧ PL p m z.2.1 z.2.2 w
  | 0 => ⟨(h, k, t), n0, w0, rfl, h0, hn0, H0⟩
  | j + 1 => by
    obtain ⟨z, m, w, e, z1, z2, z3⟩ := TS_ok hp bT h0 hn0 H0 j (K := K) (s := s)
    by_cases c : s.testBit j = true
    · by_cases c5 : m < 5
      · obtain ⟨m', k', t', w', q1, q2, _, q4, _⟩ := raise_pl (kd := K j) hp z3 c5 z1 (bT j)
        refine ⟨(upd z.1 p (nI m'), k', t'), m', w', ?_, upd_s, q1, q4⟩
        show (Option.bind (TS K T p s h k t j) fun z => if s.testBit j = true then sp_X3_raise (nI p) (K j) (T j) z.1 z.2.1 z.2.2 else some z) = _
        rw [e]
        simp only [Option.bind_some]
        rw [if_pos c, q2]
      · obtain rfl : m = 5 := by omega
        refine ⟨z, 5, w, ?_, z1, z2, z3⟩
        show (Option.bind (TS K T p s h k t j) fun z => if s.testBit j = true then sp_X3_raise (nI p) (K j) (T j) z.1 z.2.1 z.2.2 else some z) = _
        rw [e]
        simp only [Option.bind_some]
        rw [if_pos c, raise_full hp z1]
    · refine ⟨z, m, w, ?_, z1, z2, z3⟩
      show (Option.bind (TS K T p s h k t j) fun z => if s.testBit j = true then sp_X3_raise (nI p) (K j) (T j) z.1 z.2.1 z.2.2 else some z) = _
      rw [e]
      simp only [Option.bind_some]
      rw [if_neg c]
/-- how high a plot is behind n turns, those of a set built on it -/
noncomputable def HB (K T h k t : Nat → Int32) (n p s : Nat) : Nat := min 5 (match TS K T p s h k t n with
  | some z => (z.1 p).toNatClampNeg
  | none => 0)
theorem HB_le (K T h k t : Nat → Int32) (n p s : Nat) : HB K T h k t n p s ≤ 5 := Nat.min_le_left _ _
theorem HB_of {K T h k t : Nat → Int32} {n p s m : Nat} {z : (Nat → Int32) × (Nat → Int32) × (Nat → Int32)} (e : TS K T p s h k t n = some z) (hz : z.1 p = nI m) (hm : m ≤ 5) : HB K T h k t n p s = m := by
  unfold HB
  rw [e]
  show min 5 (z.1 p).toNatClampNeg = m
  rw [hz, nI_clamp (by omega)]
  omega
theorem HB_pre {K T h k t : Nat → Int32} {D : Nat → Nat} {n p i m : Nat} {z : (Nat → Int32) × (Nat → Int32) × (Nat → Int32)} (hi : i ≤ n) (e : TS K T p (so D p n) h k t i = some z) (hz : z.1 p = nI m) (hm : m ≤ 5) : HB K T h k t n p (so D p i) = m := by
  refine HB_of (z := z) ?_ hz hm
  obtain ⟨d, rfl⟩ : ∃ d, n = i + d := ⟨n - i, by omega⟩
  rw [TS_stay (fun j hj => by rw [so_bit]; exact decide_eq_false (fun q => absurd q.1 (by omega))) d, ← e]
  refine TS_cong i (fun j hj => ?_)
  rw [so_bit, so_bit]
  by_cases g : D j = p
  · rw [decide_eq_true (⟨hj, g⟩ : j < i ∧ D j = p), decide_eq_true (⟨by omega, g⟩ : j < i + d ∧ D j = p)]
  · rw [decide_eq_false (fun q => g q.2), decide_eq_false (fun q => g q.2)]
/-- how far off it is behind j years, from y on -/
noncomputable def ofs (off kd : Int32) (pulls : Nat → Int32) (y : Nat) : Nat → Int32
  | 0 => off
  | j + 1 => sp_X6_offBehind (nI (y + j)) (ofs off kd pulls y j) kd pulls
theorem bt_ofs {off kd : Int32} {pulls : Nat → Int32} {y : Nat} (hy : y < 2 ^ 30) (ho : bt off) (hp : ∀ i : Nat, i < 6 → bt (pulls i)) : ∀ j : Nat, j ≤ 4 → bt (ofs off kd pulls y j)
  | 0, _ => ho
  | j + 1, h => bt_offBehind (by omega) (bt_ofs hy ho hp j (by omega)) hp
theorem st7 {h : Nat → Int32} {g : Nat → Nat} (H : ∀ p : Nat, p < 6 → h p = nI (g p)) : sp_X3_storeys h = some (nI (sum6 g)) := by
  obtain ⟨r, e1, q⟩ := lk1 (L := fun fu (s : Int32 × Int32) => lp_X3_storeys_4 h fu s.1 s.2)
    (fun d s => ∃ i : Nat, i + d = 6 ∧ s.1 = nI (sumf g i) ∧ s.2 = nI i) (fun r => r.1 = nI (sumf g 6)) (by
    rintro d fu ⟨x, y⟩ hd ⟨i, hi, ex, ey⟩
    simp only at ex ey
    subst ex; subst ey
    dsimp only
    rw [lp_X3_storeys_4]
    cases d with
    | zero =>
      obtain rfl : i = 6 := by omega
      rw [if_pos (show (6 : Int32) ≤ nI 6 from Int32.le_refl _)]
      exact Or.inl ⟨_, rfl, rfl⟩
    | succ d =>
      rw [if_neg (show ¬ (6 : Int32) ≤ nI i from nI_ge (b := 6) (by omega) (by omega)), height_n (by omega), H i (by omega), nI_add, nI_1]
      exact Or.inr ⟨d, (_, _), rfl, rfl, i + 1, by omega, rfl, rfl⟩) 6 FU (nI 0, nI 0) (by rw [FU_eq]; omega) ⟨0, by omega, rfl, rfl⟩
  have e1 : lp_X3_storeys_4 h FU 0 0 = some r := e1
  unfold sp_X3_storeys
  rw [e1]
  show some r.1 = _
  rw [q]
  congr 2
  simp only [sumf, sum6, Nat.zero_add]
theorem st8 {w : Nat → Int32} {g : Nat → Nat} (H : ∀ p : Nat, p < 6 → w (3 + p) = nI (g p)) : sp_X8_storeys w = some (nI (sum6 g)) := by
  obtain ⟨r, e1, e2⟩ := storeys_eq (h := fun p => w (3 + p)) (w := w) (fun _ _ => rfl)
  rw [st7 (g := g) H] at e1
  rw [e2, ← e1]
/-- the tilts of the turns -/
theorem plan10 {n y : Nat} {off kd : Int32} {pulls f : Nat → Int32} (hn : n ≤ 4) : ∃ r : Int32 × Int32 × (Nat → Int32), lp_X1_plan_10 (nI n) kd (nI y) pulls FU off 0 f = some r ∧ ∀ j : Nat, j < n → r.2.2 j = ofs off kd pulls y j :=
  lk1 (L := fun fu (s : Int32 × Int32 × (Nat → Int32)) => lp_X1_plan_10 (nI n) kd (nI y) pulls fu s.1 s.2.1 s.2.2)
    (fun d s => ∃ i : Nat, i + d = n ∧ s.1 = ofs off kd pulls y i ∧ s.2.1 = nI i ∧ ∀ j : Nat, j < i → s.2.2 j = ofs off kd pulls y j) (fun r => ∀ j : Nat, j < n → r.2.2 j = ofs off kd pulls y j) (by
    rintro d fu ⟨x, z, g⟩ hd ⟨i, hi, ex, ez, hg⟩
    simp only at ex ez hg
    subst ex; subst ez
    dsimp only
    rw [lp_X1_plan_10]
    cases d with
    | zero =>
      obtain rfl : i = n := by omega
      rw [if_pos (Int32.le_refl _)]
      exact Or.inl ⟨_, rfl, hg⟩
    | succ d =>
      rw [if_neg (nI_ge (by omega) (by omega)), put_n (by omega) (by omega), nI_add, nI_1]
      refine Or.inr ⟨d, (_, _, _), rfl, rfl, i + 1, by omega, rfl, rfl, fun j hj => ?_⟩
      by_cases e : j = i
      · subst e; exact upd_s
      · exact (upd_o e).trans (hg j (by omega))) n FU (off, nI 0, f) (by rw [FU_eq]; omega) ⟨0, by omega, rfl, rfl, fun j hj => absurd hj (by omega)⟩
theorem hb_eq {p s n : Nat} {off yr_ : Int32} {K T fT h k t w : Nat → Int32} (hp : p < 6) (hs : s < 16) (hn : n ≤ 4) (hT : ∀ j : Nat, j < n → fT j = T j) (bT : ∀ j : Nat, bt (T j)) (H : HS h k t w) : ∃ a b c : Nat → Int32, sp_X1_heightBehind (nI p) (nI s) (nI n) off yr_ h k t K fT = some (nI (HB K T h k t n p s), off, yr_, a, b, c) := by
  obtain ⟨n0, hn0, h1, h2, h3⟩ := H p hp
  obtain ⟨r, e1, e2⟩ := lk1 (L := fun fu (x : Int32 × (Nat → Int32) × (Nat → Int32) × (Nat → Int32)) => lp_X1_heightBehind_11 (nI p) (nI s) (nI n) K fT fu x.1 x.2.1 x.2.2.1 x.2.2.2)
    (fun d x => ∃ i : Nat, i + d = n ∧ x.1 = nI i ∧ TS K T p s h k t i = some x.2) (fun r => TS K T p s h k t n = some r.2) (by
    rintro d fu ⟨x, a, b, c⟩ hd ⟨i, hi, ex, e⟩
    simp only at ex e
    subst ex
    dsimp only
    rw [lp_X1_heightBehind_11]
    cases d with
    | zero =>
      obtain rfl : i = n := by omega
      rw [if_pos (Int32.le_refl _)]
      exact Or.inl ⟨_, rfl, e⟩
    | succ d =>
      obtain ⟨z, m, w', t1, t2, t3, t4⟩ := TS_ok (K := K) (s := s) hp bT h1 hn0 ⟨h2, h3⟩ (i + 1)
      have u : TS K T p s h k t (i + 1) = if s.testBit i = true then sp_X3_raise (nI p) (K i) (T i) a b c else some (a, b, c) := by
        show (Option.bind (TS K T p s h k t i) fun z => if s.testBit i = true then sp_X3_raise (nI p) (K i) (T i) z.1 z.2.1 z.2.2 else some z) = _
        rw [e]; rfl
      rw [if_neg (nI_ge (by omega) (by omega)), has_eq, bit_has s (by omega) i (by omega), at_n (by omega) (by omega), at_n (by omega) (by omega), hT i (by omega), nI_1]
      refine Or.inr ⟨d, (nI (i + 1), z), rfl, ?_, i + 1, by omega, rfl, t1⟩
      by_cases g : s.testBit i = true
      · rw [if_pos g] at u
        rw [if_pos g, if_neg (show ¬ (1 : Int32) = 0 from by decide), ← u, t1]; rfl
      · rw [if_neg g] at u
        rw [if_neg g, if_pos rfl]
        rw [t1] at u
        cases u
        rfl) n FU (nI 0, h, k, t) (by rw [FU_eq]; omega) ⟨0, by omega, rfl, rfl⟩
  have e1 : lp_X1_heightBehind_11 (nI p) (nI s) (nI n) K fT FU 0 h k t = some r := e1
  obtain ⟨z, m, w', t1, t2, t3, t4⟩ := TS_ok (K := K) (s := s) hp bT h1 hn0 ⟨h2, h3⟩ n
  have ez : z = r.2 := Option.some.inj (t1.symm.trans e2)
  refine ⟨r.2.1, r.2.2.1, r.2.2.2, ?_⟩
  unfold sp_X1_heightBehind
  rw [e1]
  simp only [Option.bind_some]
  rw [height_n hp, HB_of t1 t2 t3, ← t2, ez]
theorem sh4 : ∀ n : Nat, n < 5 → ((1 : Int32) <<< (nI n &&& 31)) = nI (2 ^ n) := by decide +kernel
theorem plan59 {p n : Nat} {off yr_ a0 a1 : Int32} {K T h k t w b0 b1 b2 f : Nat → Int32} {z1 : Int32 × Int32 × (Nat → Int32)} (hp : p < 6) (hn : n ≤ 4) (hT : ∀ j : Nat, j < n → z1.2.2 j = T j) (bT : ∀ j : Nat, bt (T j)) (H : HS h k t w) : ∃ r : Int32 × Int32 × Int32 × (Nat → Int32) × (Nat → Int32) × (Nat → Int32) × (Nat → Int32), lp_X1_plan_59 (nI n) off yr_ h k t K z1 (nI p) FU 0 a0 a1 b0 b1 b2 f = some r ∧ (∀ x : Nat, x < 2 ^ n → r.2.2.2.2.2.2 (p * 16 + x) = nI (HB K T h k t n p x)) ∧ ∀ j : Nat, j < p * 16 → r.2.2.2.2.2.2 j = f j := by
  have h16 := two4 hn
  exact lk1 (L := fun fu (s : Int32 × Int32 × Int32 × (Nat → Int32) × (Nat → Int32) × (Nat → Int32) × (Nat → Int32)) => lp_X1_plan_59 (nI n) off yr_ h k t K z1 (nI p) fu s.1 s.2.1 s.2.2.1 s.2.2.2.1 s.2.2.2.2.1 s.2.2.2.2.2.1 s.2.2.2.2.2.2)
    (fun d s => ∃ i : Nat, i + d = 2 ^ n ∧ s.1 = nI i ∧ (∀ x : Nat, x < i → s.2.2.2.2.2.2 (p * 16 + x) = nI (HB K T h k t n p x)) ∧ ∀ j : Nat, j < p * 16 → s.2.2.2.2.2.2 j = f j)
    (fun r => (∀ x : Nat, x < 2 ^ n → r.2.2.2.2.2.2 (p * 16 + x) = nI (HB K T h k t n p x)) ∧ ∀ j : Nat, j < p * 16 → r.2.2.2.2.2.2 j = f j) (by
    rintro d fu ⟨x, c0, c1, d0, d1, d2, g⟩ hd ⟨i, hi, ex, hg, ho⟩
    simp only at ex hg ho
    subst ex
    dsimp only
    rw [lp_X1_plan_59, sh4 n (by omega)]
    cases d with
    | zero =>
      obtain rfl : i = 2 ^ n := by omega
      rw [if_pos (Int32.le_refl _)]
      exact Or.inl ⟨_, rfl, hg, ho⟩
    | succ d =>
      obtain ⟨a, b, c, e⟩ := hb_eq (s := i) (off := off) (yr_ := yr_) (K := K) hp (by omega) hn hT bT H
      rw [if_neg (nI_ge (by omega) (by omega)), e, x16, nI_1]
      simp only [Option.bind_some, lt_]
      rw [put_n (by omega) (by omega)]
      refine Or.inr ⟨d, (_, _, _, _, _, _, _), rfl, rfl, i + 1, by omega, rfl, fun x hx => ?_, fun j hj => (upd_o (by omega)).trans (ho j hj)⟩
      by_cases g : x = i
      · subst g; exact upd_s
      · exact (upd_o (by omega)).trans (hg x (by omega))) (2 ^ n) FU (nI 0, a0, a1, b0, b1, b2, f) (by rw [FU_eq]; omega) ⟨0, by omega, rfl, fun x hx => absurd hx (by omega), fun _ _ => rfl⟩
theorem plan50 {n : Nat} {off yr_ a0 a1 : Int32} {K T h k t w b0 b1 b2 f : Nat → Int32} {z1 : Int32 × Int32 × (Nat → Int32)} (hn : n ≤ 4) (hT : ∀ j : Nat, j < n → z1.2.2 j = T j) (bT : ∀ j : Nat, bt (T j)) (H : HS h k t w) : ∃ r : Int32 × Int32 × Int32 × (Nat → Int32) × (Nat → Int32) × (Nat → Int32) × (Nat → Int32), lp_X1_plan_50 (nI n) off yr_ h k t K z1 FU 0 a0 a1 b0 b1 b2 f = some r ∧ ∀ p x : Nat, p < 6 → x < 2 ^ n → r.2.2.2.2.2.2 (p * 16 + x) = nI (HB K T h k t n p x) := by
  have h16 := two4 hn
  exact lk1 (L := fun fu (s : Int32 × Int32 × Int32 × (Nat → Int32) × (Nat → Int32) × (Nat → Int32) × (Nat → Int32)) => lp_X1_plan_50 (nI n) off yr_ h k t K z1 fu s.1 s.2.1 s.2.2.1 s.2.2.2.1 s.2.2.2.2.1 s.2.2.2.2.2.1 s.2.2.2.2.2.2)
    (fun d s => ∃ i : Nat, i + d = 6 ∧ s.1 = nI i ∧ ∀ p x : Nat, p < i → x < 2 ^ n → s.2.2.2.2.2.2 (p * 16 + x) = nI (HB K T h k t n p x))
    (fun r => ∀ p x : Nat, p < 6 → x < 2 ^ n → r.2.2.2.2.2.2 (p * 16 + x) = nI (HB K T h k t n p x)) (by
    rintro d fu ⟨x, c0, c1, d0, d1, d2, g⟩ hd ⟨i, hi, ex, hg⟩
    simp only at ex hg
    subst ex
    dsimp only
    rw [lp_X1_plan_50]
    cases d with
    | zero =>
      obtain rfl : i = 6 := by omega
      rw [if_pos (show (6 : Int32) ≤ nI 6 from Int32.le_refl _)]
      exact Or.inl ⟨_, rfl, hg⟩
    | succ d =>
      obtain ⟨r, e, r1, r2⟩ := plan59 (p := i) (off := off) (yr_ := yr_) (K := K) (a0 := c0) (a1 := c1) (b0 := d0) (b1 := d1) (b2 := d2) (f := g) (by omega) hn hT bT H
      rw [if_neg (show ¬ (6 : Int32) ≤ nI i from nI_ge (b := 6) (by omega) (by omega)), e, nI_1]
      simp only [Option.bind_some]
      refine Or.inr ⟨d, (_, _, _, _, _, _, _), rfl, rfl, i + 1, by omega, rfl, fun p x hp hx => ?_⟩
      by_cases g : p = i
      · subst g; exact r1 x hx
      · exact (r2 _ (by omega)).trans (hg p x (by omega) hx)) 6 FU (nI 0, a0, a1, b0, b1, b2, f) (by rw [FU_eq]; omega) ⟨0, by omega, rfl, fun p x hp => absurd hp (by omega)⟩
/-- the class's plan -/
theorem plan_eq {n y : Nat} {off kd a0 a1 : Int32} {fT pulls h b0 k b1 t b2 K f se pl bp w : Nat → Int32} (h1 : 1 ≤ n) (hn : n ≤ 4) (bT : ∀ j : Nat, j < n → bt (ofs off kd pulls y j)) (H : HS h k t w) : ∃ r : Int32 × (Nat → Int32) × Int32 × Int32 × (Nat → Int32) × (Nat → Int32) × (Nat → Int32) × (Nat → Int32) × (Nat → Int32) × (Nat → Int32) × (Nat → Int32), sp_X1_plan (nI n) kd off (nI y) fT pulls a0 a1 h b0 k b1 t b2 K f se pl bp = some r ∧ RS n (fr (wy (HB K (fun j => if j < n then ofs off kd pulls y j else 0) h k t n) n) 0 (6 ^ n) none) r.1 r.2.2.2.2.2.2.2.2.2.2 := by
  have bT' : ∀ j : Nat, bt ((fun j => if j < n then ofs off kd pulls y j else 0) j) := fun j => by
    show bt (if j < n then ofs off kd pulls y j else 0)
    by_cases c : j < n
    · rw [if_pos c]; exact bT j c
    · rw [if_neg c]; exact bt_0
  obtain ⟨z1, e1, q1⟩ := plan10 (n := n) (y := y) (off := off) (kd := kd) (pulls := pulls) (f := fT) hn
  obtain ⟨z4, e4, q4⟩ := plan50 (z1 := z1) (off := off) (yr_ := nI y) (K := K) (T := fun j => if j < n then ofs off kd pulls y j else 0) (a0 := a0) (a1 := a1) (b0 := b0) (b1 := b1) (b2 := b2) (f := f) hn (fun j hj => by rw [q1 j hj]; exact (if_pos hj).symm) bT' H
  obtain ⟨z10, e10, q10⟩ := empty_eq (n := 6) (by omega) (f := se)
  have hz : ∀ p : Nat, p < 6 → h p = nI (HB K (fun j => if j < n then ofs off kd pulls y j else 0) h k t n p 0) := fun p hp => by
    obtain ⟨n0, hn0, g1, g2, g3⟩ := H p hp
    rw [g1]
    have : TS K (fun j => if j < n then ofs off kd pulls y j else 0) p 0 h k t (0 + n) = TS K (fun j => if j < n then ofs off kd pulls y j else 0) p 0 h k t 0 := TS_stay (fun i _ => Nat.zero_testBit i) n
    rw [Nat.zero_add] at this
    exact congrArg nI (HB_of (m := n0) this g1 hn0).symm
  have e11 := st7 (g := fun p => HB K (fun j => if j < n then ofs off kd pulls y j else 0) h k t n p 0) hz
  obtain ⟨b', se', pl', bp', f1, _, _, f4⟩ := choose_all (H := HB K (fun j => if j < n then ofs off kd pulls y j else 0) h k t n) (n := n) (fun p x => HB_le _ _ _ _ _ _ _ _) h1 hn q4 0 none (-1) z10 pl bp rfl (fun p hp => q10 p hp) (fun i hi => absurd hi (by omega)) (Or.inl ⟨rfl, rfl⟩)
  rw [Nat.zero_mul, Nat.sub_zero] at f4
  have f1 : sp_X1_choose_4 0 (nI (sum6 (fun p => HB K (fun j => if j < n then ofs off kd pulls y j else 0) h k t n p 0))) (nI n) (-1) z10 z4.2.2.2.2.2.2 pl bp = some (b', se', pl', bp') := f1
  refine ⟨(b', z1.2.2, z4.2.1, z4.2.2.1, z4.2.2.2.1, z4.2.2.2.2.1, z4.2.2.2.2.2.1, z4.2.2.2.2.2.2, se', pl', bp'), ?_, f4⟩
  unfold sp_X1_plan
  rw [e1]
  simp only [Option.bind_some]
  rw [e4]
  simp only [Option.bind_some]
  rw [e10, e11]
  simp only [Option.bind_some]
  rw [f1]
  rfl
