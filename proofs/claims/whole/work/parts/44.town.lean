/-! pure: a site's storeys -/
/-- the heights and storeys of a site at 3 and behind in a row -/
def HS (h k t w : Nat → Int32) : Prop := ∀ p : Nat, p < 6 → ∃ n : Nat, n ≤ 5 ∧ h p = nI n ∧ w (3 + p) = nI n ∧ ∀ i : Nat, i < n → k (p * 5 + i) = w (9 + 10 * p + 2 * i) ∧ t (p * 5 + i) = w (10 + 10 * p + 2 * i) ∧ bt (t (p * 5 + i))
theorem kindAt_n {p i : Nat} {k : Nat → Int32} (hp : p < 6) (hi : i < 5) : sp_X3_kindAt (nI p) (nI i) k = k (p * 5 + i) := by
  unfold sp_X3_kindAt
  have e : nI p * 5 + nI i = nI (p * 5 + i) := by rw [show nI p * 5 = nI (p * 5) from pk_mul p 5, nI_add]
  rw [e, at_n (by omega) (by omega)]
theorem tiltAt_n {p i : Nat} {k : Nat → Int32} (hp : p < 6) (hi : i < 5) : sp_X3_tiltAt (nI p) (nI i) k = k (p * 5 + i) := by
  unfold sp_X3_tiltAt
  have e : nI p * 5 + nI i = nI (p * 5 + i) := by rw [show nI p * 5 = nI (p * 5) from pk_mul p 5, nI_add]
  rw [e, at_n (by omega) (by omega)]
theorem height_n {p : Nat} {h : Nat → Int32} (hp : p < 6) : sp_X3_height (nI p) h = h p := at_n hp (by omega)
theorem storey_n (p i : Nat) : sp_X8_storey (nI p) (nI i) = nI (9 + 10 * p + 2 * i) := by
  unfold sp_X8_storey
  rw [show (10 : Int32) * nI p = nI (10 * p) from pk_mul 10 p, show (2 : Int32) * nI i = nI (2 * i) from pk_mul 2 i, show (9 : Int32) + nI (10 * p) = nI (9 + 10 * p) from nI_add 9 (10 * p), nI_add]
theorem n3 (p : Nat) : (3 : Int32) + nI p = nI (3 + p) := nI_add 3 p
theorem load_eq {p n k0 : Nat} {h k w : Nat → Int32} {x : Int32} (hp : p < 6) (hn : n ≤ 5) (hh : h p = nI n) (hw : w (3 + p) = nI n) (hk : ∀ i : Nat, i < n → k (p * 5 + i) = w (9 + 10 * p + 2 * i)) (hx : x + 1 = nI k0) (hk0 : k0 ≤ n) : ∃ r : Int32, sp_X3_loadOn (nI p) x h k = some r ∧ sp_X8_loadOn (nI p) x w = some r := by
  obtain ⟨r, r', e1, e2, q⟩ := lk (L := fun fu (s : Int32 × Int32) => lp_X3_loadOn_7 (nI p) h k fu s.1 s.2) (M := fun fu (s : Int32 × Int32) => lp_X8_loadOn_7 (nI p) w fu s.1 s.2)
    (fun d s t => s = t ∧ ∃ i : Nat, i + d = n ∧ s.2 = nI i) (fun r k => r.1 = k.1) (by
    rintro d fu ⟨a, y⟩ t hd ⟨rfl, i, hi, e⟩
    simp only at e
    subst e
    cases d with
    | zero =>
      obtain rfl : i = n := by omega
      refine Or.inl ⟨(a, nI i), (a, nI i), ?_, ?_, rfl⟩
      · show lp_X3_loadOn_7 (nI p) h k (fu + 1) a (nI i) = _
        rw [lp_X3_loadOn_7, height_n hp, hh, if_pos (Int32.le_refl _)]
      · show lp_X8_loadOn_7 (nI p) w (fu + 1) a (nI i) = _
        rw [lp_X8_loadOn_7, n3, gi_n (by omega) (by omega), nI_clamp (by omega), hw, if_pos (Int32.le_refl _)]
    | succ d =>
      refine Or.inr ⟨d, (a + sp_X4_heavy (k (p * 5 + i)), nI (i + 1)), (a + sp_X4_heavy (k (p * 5 + i)), nI (i + 1)), rfl, ?_, ?_, rfl, i + 1, by omega, rfl⟩
      · show lp_X3_loadOn_7 (nI p) h k (fu + 1) a (nI i) = lp_X3_loadOn_7 (nI p) h k fu (a + sp_X4_heavy (k (p * 5 + i))) (nI (i + 1))
        rw [lp_X3_loadOn_7, height_n hp, hh, if_neg (nI_ge (by omega) (by omega)), nI_1, kindAt_n hp (by omega)]
      · show lp_X8_loadOn_7 (nI p) w (fu + 1) a (nI i) = lp_X8_loadOn_7 (nI p) w fu (a + sp_X4_heavy (k (p * 5 + i))) (nI (i + 1))
        rw [lp_X8_loadOn_7, n3, gi_n (by omega) (by omega), nI_clamp (by omega), hw, if_neg (nI_ge (by omega) (by omega)), nI_1, storey_n, gi_n (by omega) (by omega), nI_clamp (by omega), hk i (by omega), heavy_eq]) (n - k0) FU (0, nI k0) (0, nI k0) (by rw [FU_eq]; omega) ⟨rfl, k0, by omega, rfl⟩
  have e1 : lp_X3_loadOn_7 (nI p) h k FU 0 (nI k0) = some r := e1
  have e2 : lp_X8_loadOn_7 (nI p) w FU 0 (nI k0) = some r' := e2
  refine ⟨r.1, ?_, ?_⟩
  · unfold sp_X3_loadOn; rw [hx, e1]; rfl
  · unfold sp_X8_loadOn; rw [hx, e2, q]; rfl
theorem top_eq {p : Nat} {h k t w : Nat → Int32} (H : HS h k t w) (hp : p < 6) : sp_X8_top (nI p) w = some (sp_X3_top (nI p) h t) := by
  obtain ⟨n, hn, e1, e2, e3⟩ := H p hp
  unfold sp_X8_top sp_X3_top
  rw [n3, gi_n (by omega) (by omega), nI_clamp (by omega), height_n hp, e1, e2]
  by_cases h0 : n = 0
  · subst h0
    rw [if_pos (show nI 0 = 0 from rfl), if_pos (show nI 0 ≤ 0 from by decide)]
  · obtain ⟨m, rfl⟩ : ∃ m, n = m + 1 := ⟨n - 1, by omega⟩
    rw [if_neg (nI_ne0 (by omega) (by omega)), if_neg (nI_nle (by omega) (by omega)), nI_pred, storey_n, nI_1, gi_n (by omega) (by omega), nI_clamp (by omega), tiltAt_n hp (by omega), (e3 m (by omega)).2.1, show 9 + 10 * p + 2 * m + 1 = 10 + 10 * p + 2 * m by omega]
theorem TT.hs {s : CSt} {t : MSt} (h : TT s t) : HS (s.2.2.1 1) (s.2.2.1 2) (s.2.2.1 3) (t.2.2 1) := h.hts
theorem in_below {x : Int32} {n : Nat} (hn : n < 2 ^ 30) (h : ¬ sp_X8_in x 0 (nI n - 1) = 0) : ∃ j : Nat, j < n ∧ x = nI j := by
  unfold sp_X8_in at h
  by_cases h1 : x < 0
  · rw [if_pos h1] at h; exact absurd rfl h
  · rw [if_neg h1] at h
    by_cases h2 : nI n - 1 < x
    · rw [if_pos h2] at h; exact absurd rfl h
    · obtain ⟨j, hj, rfl⟩ := nI_of h1
      refine ⟨j, ?_, rfl⟩
      have e : (nI n - nI 1).toInt = (n : Int) - 1 := by have := pk_sub_toInt (a := n) (b := 1) hn (by omega); simpa using this
      rw [Int32.lt_iff_toInt_lt, show nI n - 1 = nI n - nI 1 from rfl, e, nI_toInt hj] at h2
      omega
theorem st_of (p1 p2 p3 : Int32) (s : CSt) (t : MSt) (h : REL s t) : ∃ (r : Int32) (s1 : CSt) (t1 : MSt), S7_of p1 p2 p3 s = some (r, s1) ∧ S8_of p1 p2 p3 t = some (r, t1) ∧ REL s1 t1 := by
  obtain ⟨hT, hK, hC, hF, hX⟩ := h
  unfold S7_of S8_of sp_X7_of sp_X8_of
  by_cases c0 : sp_X8_isPlot p1 = 0
  · rw [if_pos (show sp_X7_isPlot p1 = 0 from c0), if_pos c0]
    exact ⟨_, _, _, rfl, rfl, hT, hK, hC.bad rfl rfl rfl rfl rfl rfl, hF, hX⟩
  · rw [if_neg (show ¬ sp_X7_isPlot p1 = 0 from c0), if_neg c0]
    obtain ⟨p, _, hp, rfl⟩ := in_nat (lo := 0) (hi := 5) c0 (by omega) (by omega)
    obtain ⟨n, hn, e1, e2, e3⟩ := hT.hts p (by omega)
    rw [height_n (by omega), e1, in_eq, n3, gi_n (by omega) (by omega), nI_clamp (by omega), e2]
    by_cases c2 : sp_X8_in p2 0 (nI n - 1) = 0
    · rw [if_pos c2, if_pos c2]
      by_cases c3 : sp_X8_in p3 0 2 = 0
      · rw [if_pos c3]; exact ⟨_, _, _, rfl, rfl, hT, hK, hC.bad rfl rfl rfl rfl rfl rfl, hF, hX⟩
      · rw [if_neg c3]; exact ⟨_, _, _, rfl, rfl, hT, hK, hC.bad rfl rfl rfl rfl rfl rfl, hF, hX⟩
    · rw [if_neg c2, if_neg c2]
      obtain ⟨i, hi, rfl⟩ := in_below (by omega) c2
      by_cases c3 : sp_X8_in p3 0 2 = 0
      · have n0 : ¬ p3 = 0 := fun q => by subst q; exact absurd c3 (by decide)
        have n1 : ¬ p3 = 1 := fun q => by subst q; exact absurd c3 (by decide)
        have n2 : ¬ p3 = 2 := fun q => by subst q; exact absurd c3 (by decide)
        rw [if_pos c3, if_neg n0, if_neg n1, if_neg n2]
        exact ⟨_, _, _, rfl, rfl, hT, hK, hC.bad rfl rfl rfl rfl rfl rfl, hF, hX⟩
      · rw [if_neg c3]
        obtain ⟨q, _, hq, rfl⟩ := in_nat (lo := 0) (hi := 2) c3 (by omega) (by omega)
        match q, hq with
        | 0, _ =>
          rw [if_pos (show nI 0 = 0 from rfl), if_neg (show ¬ nI 0 = 2 from by decide), storey_n, nI_add, gi_n (by omega) (by omega), nI_clamp (by omega), kindAt_n (by omega) (by omega), (e3 i hi).1]
          exact ⟨_, _, _, rfl, rfl, hT, hK, hC, hF, hX⟩
        | 1, _ =>
          rw [if_neg (show ¬ nI 1 = 0 from by decide), if_pos (show nI 1 = 1 from rfl), if_neg (show ¬ nI 1 = 2 from by decide), storey_n, nI_add, gi_n (by omega) (by omega), nI_clamp (by omega), tiltAt_n (by omega) (by omega), (e3 i hi).2.1, show 9 + 10 * p + 2 * i + 1 = 10 + 10 * p + 2 * i by omega]
          exact ⟨_, _, _, rfl, rfl, hT, hK, hC, hF, hX⟩
        | 2, _ =>
          obtain ⟨r, r1, r2⟩ := load_eq (p := p) (n := n) (k0 := i + 1) (h := s.2.2.1 1) (k := s.2.2.1 2) (w := t.2.2 1) (x := nI i) (by omega) hn e1 e2 (fun i hi => (e3 i hi).1) (nI_1 i) (by omega)
          rw [if_neg (show ¬ nI 2 = 0 from by decide), if_neg (show ¬ nI 2 = 1 from by decide), if_pos (show nI 2 = 2 from rfl), if_pos (show nI 2 = 2 from rfl), r1, r2]
          exact ⟨_, _, _, rfl, rfl, hT, hK, hC, hF, hX⟩
theorem st_plot (p1 p2 : Int32) (s : CSt) (t : MSt) (h : REL s t) : ∃ (r : Int32) (s1 : CSt) (t1 : MSt), S7_plot p1 p2 s = some (r, s1) ∧ S8_plot p1 p2 t = some (r, t1) ∧ REL s1 t1 := by
  obtain ⟨hT, hK, hC, hF, hX⟩ := h
  unfold S7_plot S8_plot sp_X7_plot sp_X8_plot
  by_cases c0 : sp_X8_isPlot p1 = 0
  · rw [if_pos (show sp_X7_isPlot p1 = 0 from c0), if_pos c0]
    exact ⟨_, _, _, rfl, rfl, hT, hK, hC.bad rfl rfl rfl rfl rfl rfl, hF, hX⟩
  · rw [if_neg (show ¬ sp_X7_isPlot p1 = 0 from c0), if_neg c0]
    obtain ⟨p, _, hp, rfl⟩ := in_nat (lo := 0) (hi := 5) c0 (by omega) (by omega)
    obtain ⟨n, hn, e1, e2, e3⟩ := hT.hts p (by omega)
    by_cases c3 : sp_X8_in p2 0 2 = 0
    · have n0 : ¬ p2 = 0 := fun q => by subst q; exact absurd c3 (by decide)
      have n1 : ¬ p2 = 1 := fun q => by subst q; exact absurd c3 (by decide)
      have n2 : ¬ p2 = 2 := fun q => by subst q; exact absurd c3 (by decide)
      rw [if_pos c3, if_neg n0, if_neg n1, if_neg n2]
      exact ⟨_, _, _, rfl, rfl, hT, hK, hC.bad rfl rfl rfl rfl rfl rfl, hF, hX⟩
    · rw [if_neg c3]
      obtain ⟨q, _, hq, rfl⟩ := in_nat (lo := 0) (hi := 2) c3 (by omega) (by omega)
      match q, hq with
      | 0, _ =>
        rw [if_pos (show nI 0 = 0 from rfl), if_pos (show nI 0 = 0 from rfl), height_n (by omega), e1, n3, gi_n (by omega) (by omega), nI_clamp (by omega), e2]
        exact ⟨_, _, _, rfl, rfl, hT, hK, hC, hF, hX⟩
      | 1, _ =>
        rw [if_neg (show ¬ nI 1 = 0 from by decide), if_pos (show nI 1 = 1 from rfl), if_neg (show ¬ nI 1 = 0 from by decide), if_pos (show nI 1 = 1 from rfl), top_eq hT.hs (by omega)]
        exact ⟨_, _, _, rfl, rfl, hT, hK, hC, hF, hX⟩
      | 2, _ =>
        obtain ⟨r, r1, r2⟩ := load_eq (p := p) (n := n) (k0 := 0) (h := s.2.2.1 1) (k := s.2.2.1 2) (w := t.2.2 1) (x := -1) (by omega) hn e1 e2 (fun i hi => (e3 i hi).1) (by decide) (by omega)
        unfold sp_X3_weight
        rw [if_neg (show ¬ nI 2 = 0 from by decide), if_neg (show ¬ nI 2 = 1 from by decide), if_pos (show nI 2 = 2 from rfl), if_neg (show ¬ nI 2 = 0 from by decide), if_neg (show ¬ nI 2 = 1 from by decide), r1, r2]
        exact ⟨_, _, _, rfl, rfl, hT, hK, hC, hF, hX⟩
theorem count_eq {x : Int32} {c : Int32} {s : CSt} {t : MSt} (hT : TT s t) (hX : XR s t) (hx : ∃ n : Nat, n ≤ 6 ∧ x = nI n) : ∃ r : Int32, sp_X7_count x c (s.1 5) (s.1 6) (s.1 7) (s.1 8) (s.1 10) (s.2.2.1 1) (s.1 32) = some (r, c) ∧ sp_X8_countOf x (t.1 0) (t.2.2 1) = some r := by
  obtain ⟨n, hn, rfl⟩ := hx
  unfold sp_X7_count sp_X8_countOf
  simp only [cl_2, cl_75, cl_81, cl_106, cl_137]
  match n, hn with
  | 0, _ =>
    obtain ⟨r, r1, r2⟩ := storeys_eq (h := s.2.2.1 1) (w := t.2.2 1) (fun p hp => by obtain ⟨n, _, e1, e2, _⟩ := hT.hts p hp; rw [e1, e2])
    rw [r1, r2]
    exact ⟨r, rfl, rfl⟩
  | 1, _ =>
    obtain ⟨y, _, y1, y2⟩ := hT.year
    exact ⟨s.1 10, rfl, by rw [y1]; exact congrArg some y2⟩
  | 2, _ =>
    obtain ⟨y, _, y1, y2, _⟩ := hT.mems
    exact ⟨s.1 6, rfl, by rw [y1]; exact congrArg some y2⟩
  | 3, _ =>
    obtain ⟨y, _, y1, y2, _⟩ := hT.notes
    exact ⟨s.1 7, rfl, by rw [y1]; exact congrArg some y2⟩
  | 4, _ =>
    obtain ⟨y, _, y1, y2, _⟩ := hT.marks
    exact ⟨s.1 8, rfl, by rw [y1]; exact congrArg some y2⟩
  | 5, _ =>
    obtain ⟨y, _, y1, y2, _⟩ := hT.pasts
    exact ⟨s.1 5, rfl, by rw [y1]; exact congrArg some y2⟩
  | 6, _ =>
    obtain ⟨y, _, y1, y2, _⟩ := hX
    exact ⟨s.1 32, rfl, by rw [y1]; exact congrArg some y2⟩
theorem st_count (p1 : Int32) (s : CSt) (t : MSt) (h : REL s t) : ∃ (r : Int32) (s1 : CSt) (t1 : MSt), S7_count p1 s = some (r, s1) ∧ S8_count p1 t = some (r, t1) ∧ REL s1 t1 := by
  obtain ⟨hT, hK, hC, hF, hX⟩ := h
  unfold S7_count S8_count sp_X8_count
  by_cases c0 : sp_X8_in p1 0 6 = 0
  · have n0 : ¬ p1 = 0 := fun q => by subst q; exact absurd c0 (by decide)
    have n1 : ¬ p1 = 1 := fun q => by subst q; exact absurd c0 (by decide)
    have n2 : ¬ p1 = 2 := fun q => by subst q; exact absurd c0 (by decide)
    have n3 : ¬ p1 = 3 := fun q => by subst q; exact absurd c0 (by decide)
    have n4 : ¬ p1 = 4 := fun q => by subst q; exact absurd c0 (by decide)
    have n5 : ¬ p1 = 5 := fun q => by subst q; exact absurd c0 (by decide)
    have n6 : ¬ p1 = 6 := fun q => by subst q; exact absurd c0 (by decide)
    unfold sp_X7_count
    rw [if_pos c0, if_neg n0, if_neg n1, if_neg n2, if_neg n3, if_neg n4, if_neg n5, if_neg n6]
    exact ⟨_, _, _, rfl, rfl, hT, hK, hC.bad rfl rfl rfl rfl rfl rfl, hF, hX⟩
  · rw [if_neg c0]
    obtain ⟨n, _, hn, rfl⟩ := in_nat (lo := 0) (hi := 6) c0 (by omega) (by omega)
    obtain ⟨r, r1, r2⟩ := count_eq (c := s.1 1) hT hX ⟨n, hn, rfl⟩
    rw [r1, r2]
    exact ⟨_, _, _, rfl, rfl, hT, hK, hC, hF, hX⟩
