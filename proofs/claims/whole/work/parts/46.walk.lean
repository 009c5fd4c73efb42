/-! pure: walks -/
theorem nx_eq (v x : Int32) : x + sp_J6_compare_7cf53 v 0 = if v ≤ 0 then (if 0 ≤ v then x else x - 1) else x + 1 := by
  unfold sp_J6_compare_7cf53
  by_cases h1 : 0 ≤ v
  · by_cases h2 : v = 0
    · subst h2
      rw [if_pos h1, if_pos rfl, if_pos (Int32.le_refl 0), if_pos h1, Int32.add_zero]
    · have h3 : ¬ v ≤ 0 := fun q => h2 (Int32.le_antisymm q h1)
      rw [if_pos h1, if_neg h2, if_neg h3]
  · have h3 : v ≤ 0 := by rw [Int32.le_iff_toInt_le] at h1 ⊢; omega
    rw [if_neg h1, if_pos h3, if_neg h1, Int32.sub_eq_add_neg]
theorem rolls_eq {h k t w : Nat → Int32} {c : Int32} {p0 : Nat} (H : HS h k t w) (hp0 : p0 < 6) : ∃ (r : Int32 × Int32) (r' : Int32 × Int32), lp_X7_rolls_21 c h t FU (-1) (nI p0) 0 = some r ∧ lp_X8_rolls_16 w FU (-1) (nI p0) = some r' ∧ r = (r'.2, c) := by
  refine lk (L := fun fu (s : Int32 × Int32 × Int32) => lp_X7_rolls_21 c h t fu s.1 s.2.1 s.2.2) (M := fun fu (s : Int32 × Int32) => lp_X8_rolls_16 w fu s.1 s.2)
    (fun d s u => s.1 = u.1 ∧ s.2.1 = u.2 ∧ ∃ p k : Nat, p < 6 ∧ k + d = 6 ∧ s.2.1 = nI p ∧ s.2.2 = nI k ∧ ((s.1 = -1 ∧ k = 0) ∨ (∃ q : Nat, p = q + 1 ∧ s.1 = nI q ∧ k ≤ p) ∨ (s.1 = nI (p + 1) ∧ k ≤ 5 - p))) (fun r k => r = (k.2, c)) (by
    rintro d fu ⟨fr, a, m⟩ ⟨fr', a'⟩ hd ⟨rfl, rfl, p, k, hp, hk, rfl, rfl, hi⟩
    simp only at hi
    have hk5 : k ≤ 5 := by
      rcases hi with ⟨_, h⟩ | ⟨q, h1, _, h2⟩ | ⟨_, h⟩ <;> omega
    have hm : ¬ (6 : Int32) ≤ nI k := nI_ge (b := 6) (by omega) (by omega)
    have et := top_eq H hp
    have en := nx_eq (sp_X3_top (nI p) h t) (nI p)
    obtain ⟨N, hN⟩ : ∃ N, N = nI p + sp_J6_compare_7cf53 (sp_X3_top (nI p) h t) 0 := ⟨_, rfl⟩
    have eL : lp_X7_rolls_21 c h t (fu + 1) fr (nI p) (nI k) = if N = nI p then some (nI p, c) else if N = fr then some (nI p, c) else if sp_X7_isPlot N = 0 then some (nI p, c) else lp_X7_rolls_21 c h t fu (nI p) N (nI k + 1) := by
      rw [lp_X7_rolls_21, if_neg hm, ← hN]
    have eM : lp_X8_rolls_16 w (fu + 1) fr (nI p) = if N = nI p then some (fr, nI p) else if sp_X8_isPlot N = 0 then some (fr, nI p) else if N = fr then some (fr, nI p) else lp_X8_rolls_16 w fu (nI p) N := by
      rw [lp_X8_rolls_16, et, hN, en]; rfl
    dsimp only
    rw [eL, eM]
    by_cases a1 : N = nI p
    · rw [if_pos a1, if_pos a1]; exact Or.inl ⟨_, _, rfl, rfl, rfl⟩
    · rw [if_neg a1, if_neg a1]
      by_cases a3 : N = fr
      · rw [if_pos a3]
        by_cases a2 : sp_X8_isPlot N = 0
        · rw [if_pos a2]; exact Or.inl ⟨_, _, rfl, rfl, rfl⟩
        · rw [if_neg a2, if_pos a3]; exact Or.inl ⟨_, _, rfl, rfl, rfl⟩
      · rw [if_neg a3]
        by_cases a2 : sp_X8_isPlot N = 0
        · rw [if_pos (show sp_X7_isPlot N = 0 from a2), if_pos a2]; exact Or.inl ⟨_, _, rfl, rfl, rfl⟩
        · rw [if_neg (show ¬ sp_X7_isPlot N = 0 from a2), if_neg a2, if_neg a3]
          obtain ⟨q, _, hq, eq⟩ := in_nat (lo := 0) (hi := 5) a2 (by omega) (by omega)
          refine Or.inr ⟨d - 1, (nI p, N, nI k + 1), (nI p, N), by omega, rfl, rfl, rfl, rfl, q, k + 1, by omega, by omega, eq, nI_1 k, ?_⟩
          rw [← hN] at en
          by_cases b1 : sp_X3_top (nI p) h t ≤ 0
          · rw [if_pos b1] at en
            by_cases b2 : 0 ≤ sp_X3_top (nI p) h t
            · rw [if_pos b2] at en; exact absurd en a1
            · rw [if_neg b2] at en
              have hp1 : 0 < p := by
                by_cases h0 : p = 0
                · subst h0
                  rw [en] at a2
                  exact absurd (show sp_X8_isPlot (nI 0 - 1) = 0 from by decide) a2
                · omega
              obtain ⟨p', rfl⟩ : ∃ p', p = p' + 1 := ⟨p - 1, by omega⟩
              rw [nI_pred] at en
              have : q = p' := (nI_eq (by omega) (by omega)).mp (eq.symm.trans en)
              subst this
              refine Or.inr (Or.inr ⟨rfl, ?_⟩)
              rcases hi with ⟨_, h⟩ | ⟨q', h1, h2, h3⟩ | ⟨_, h⟩
              · omega
              · have : q' = q := by omega
                subst this
                exact absurd (eq.trans h2.symm) a3
              · omega
          · rw [if_neg b1, nI_1] at en
            have : q = p + 1 := (nI_eq (by omega) (by omega)).mp (eq.symm.trans en)
            subst this
            refine Or.inr (Or.inl ⟨p, rfl, rfl, ?_⟩)
            rcases hi with ⟨_, h⟩ | ⟨q', h1, h2, h3⟩ | ⟨h1, h⟩
            · omega
            · omega
            · exact absurd (eq.trans h1.symm) a3) 6 FU (-1, nI p0, nI 0) (-1, nI p0) (by rw [FU_eq]; omega) ⟨rfl, rfl, p0, 0, hp0, by omega, rfl, rfl, Or.inl ⟨rfl, rfl⟩⟩
theorem st_rolls (p1 : Int32) (s : CSt) (t : MSt) (h : REL s t) : ∃ (r : Int32) (s1 : CSt) (t1 : MSt), S7_rolls p1 s = some (r, s1) ∧ S8_rolls p1 t = some (r, t1) ∧ REL s1 t1 := by
  obtain ⟨hT, hK, hC, hF, hX⟩ := h
  unfold S7_rolls S8_rolls sp_X7_rolls sp_X8_rolls
  by_cases c0 : sp_X8_isPlot p1 = 0
  · rw [if_pos (show sp_X7_isPlot p1 = 0 from c0), if_pos c0]
    exact ⟨_, _, _, rfl, rfl, hT, hK, hC.bad rfl rfl rfl rfl rfl rfl, hF, hX⟩
  · rw [if_neg (show ¬ sp_X7_isPlot p1 = 0 from c0), if_neg c0]
    obtain ⟨p, _, hp, rfl⟩ := in_nat (lo := 0) (hi := 5) c0 (by omega) (by omega)
    obtain ⟨r, r', e1, e2, q⟩ := rolls_eq (c := s.1 1) hT.hs (show p < 6 by omega)
    rw [e1, e2, q]
    exact ⟨_, _, _, rfl, rfl, hT, hK, hC, hF, hX⟩
theorem passM0 {a b hi : Nat} {w : Nat → Int32} (hb : (if nI b ≤ nI a then nI a else nI b) = nI hi) (hh : hi < 2 ^ 31) : ∀ (d fu i : Nat), i + d = hi → d < fu → ∃ r : Int32 × Int32, lp_X8_pass_33 (nI a) (nI b) w fu 0 (nI i) = some r ∧ r.1 = 0 := by
  intro d
  induction d with
  | zero =>
    intro fu i h1 h2
    obtain ⟨f, rfl⟩ : ∃ f, fu = f + 1 := ⟨fu - 1, by omega⟩
    obtain rfl : i = hi := by omega
    refine ⟨(0, nI i), ?_, rfl⟩
    rw [lp_X8_pass_33, hb]
    show (if nI i ≤ nI i then _ else _) = _
    rw [if_pos (Int32.le_refl _)]
  | succ d ih =>
    intro fu i h1 h2
    obtain ⟨f, rfl⟩ : ∃ f, fu = f + 1 := ⟨fu - 1, by omega⟩
    obtain ⟨r, r1, r2⟩ := ih f (i + 1) (by omega) (by omega)
    refine ⟨r, ?_, r2⟩
    rw [lp_X8_pass_33, hb]
    show (if nI hi ≤ nI i then _ else _) = _
    rw [if_neg (nI_ge (by omega) (by omega)), nI_1]
    exact r1
theorem mx_n {a b : Nat} (ha : a < 2 ^ 31) (hb : b < 2 ^ 31) : j_max (nI a) (nI b) = nI (max a b) := by
  unfold j_max
  by_cases h : a < b
  · rw [if_pos (nI_lt h hb), Nat.max_eq_right (by omega)]
  · rw [if_neg (nI_nlt (by omega) ha), Nat.max_eq_left (by omega)]
theorem mn_n {a b : Nat} (ha : a < 2 ^ 31) (hb : b < 2 ^ 31) : j_min (nI a) (nI b) = nI (min a b) := by
  unfold j_min
  by_cases h : b < a
  · rw [if_pos (nI_lt h ha), Nat.min_eq_right (by omega)]
  · rw [if_neg (nI_nlt (by omega) hb), Nat.min_eq_left (by omega)]
theorem mx_8 {a b : Nat} (ha : a < 2 ^ 31) (hb : b < 2 ^ 31) : (if nI b ≤ nI a then nI a else nI b) = nI (max a b) := by
  by_cases h : b ≤ a
  · rw [if_pos (nI_le h ha), Nat.max_eq_left h]
  · rw [if_neg (nI_ge (by omega) hb), Nat.max_eq_right (by omega)]
theorem mn_8 {a b : Nat} (ha : a < 2 ^ 31) (hb : b < 2 ^ 31) : (if nI b ≤ nI a then nI b else nI a) = nI (min a b) := by
  by_cases h : b ≤ a
  · rw [if_pos (nI_le h ha), Nat.min_eq_right h]
  · rw [if_neg (nI_ge (by omega) hb), Nat.min_eq_left (by omega)]
theorem st_pass (p1 p2 : Int32) (s : CSt) (t : MSt) (h : REL s t) : ∃ (r : Int32) (s1 : CSt) (t1 : MSt), S7_pass p1 p2 s = some (r, s1) ∧ S8_pass p1 p2 t = some (r, t1) ∧ REL s1 t1 := by
  obtain ⟨hT, hK, hC, hF, hX⟩ := h
  unfold S7_pass S8_pass sp_X7_pass sp_X8_pass
  by_cases c0 : sp_X8_isPlot p1 = 0
  · rw [if_pos (show sp_X7_isPlot p1 = 0 from c0), if_pos c0]
    exact ⟨_, _, _, rfl, rfl, hT, hK, hC.bad rfl rfl rfl rfl rfl rfl, hF, hX⟩
  · rw [if_neg (show ¬ sp_X7_isPlot p1 = 0 from c0), if_neg c0]
    by_cases c1 : sp_X8_isPlot p2 = 0
    · rw [if_pos (show sp_X7_isPlot p2 = 0 from c1), if_pos c1]
      exact ⟨_, _, _, rfl, rfl, hT, hK, hC.bad rfl rfl rfl rfl rfl rfl, hF, hX⟩
    · rw [if_neg (show ¬ sp_X7_isPlot p2 = 0 from c1), if_neg c1]
      obtain ⟨a, _, ha, rfl⟩ := in_nat (lo := 0) (hi := 5) c0 (by omega) (by omega)
      obtain ⟨b, _, hb, rfl⟩ := in_nat (lo := 0) (hi := 5) c1 (by omega) (by omega)
      obtain ⟨v, hv, e1, _, e2⟩ := steps_eq hT.hs
      rw [e1, mn_n (by omega) (by omega), mn_8 (by omega) (by omega)]
      have hmx := mx_8 (a := a) (b := b) (by omega) (by omega)
      have hmx7 := mx_n (a := a) (b := b) (by omega) (by omega)
      obtain ⟨r, r', f1, f2, q⟩ := lk (L := fun fu (x : Int32) => lp_X7_pass_33 (nI a) (nI b) (s.1 1) (nI v) fu x) (M := fun fu (x : Int32 × Int32) => lp_X8_pass_33 (nI a) (nI b) (t.2.2 1) fu x.1 x.2)
        (fun d x y => x = y.2 ∧ y.1 = 1 ∧ ∃ i : Nat, i + d = max a b ∧ x = nI i) (fun r k => (r.1 = 0 ∧ k.1 = 0 ∨ r.1 = 1 ∧ k.1 = 1) ∧ r.2 = s.1 1) (by
        rintro d fu x ⟨y, z⟩ hd ⟨rfl, hy, i, hi, rfl⟩
        simp only at hy
        subst hy
        dsimp only
        rw [lp_X7_pass_33, lp_X8_pass_33, hmx7, hmx]
        simp only [lt_]
        cases d with
        | zero =>
          obtain rfl : i = max a b := by omega
          rw [if_pos (Int32.le_refl _), if_pos (Int32.le_refl _)]
          exact Or.inl ⟨_, _, rfl, rfl, Or.inr ⟨rfl, rfl⟩, rfl⟩
        | succ d =>
          have hm : max a b ≤ 5 := by omega
          rw [if_neg (nI_ge (by omega) (by omega)), if_neg (nI_ge (by omega) (by omega)), if_neg (show ¬ (1 : Int32) = 0 from by decide), e2 i (by omega), has_eq, nI_1]
          simp only [Option.bind_some]
          rcases has01 (nI v) (nI i) with e | e
          · rw [e]
            exact Or.inr ⟨d, nI (i + 1), (1, nI (i + 1)), rfl, rfl, rfl, rfl, rfl, i + 1, by omega, rfl⟩
          · rw [e]
            obtain ⟨r, r1, r2⟩ := passM0 (w := t.2.2 1) hmx (by omega) d fu (i + 1) (by omega) (by omega)
            exact Or.inl ⟨(0, s.1 1), r, rfl, r1, Or.inl ⟨rfl, r2⟩, rfl⟩) (max a b - min a b) FU (nI (min a b)) (1, nI (min a b)) (by rw [FU_eq]; omega) ⟨rfl, rfl, min a b, by omega, rfl⟩
      have f1 : lp_X7_pass_33 (nI a) (nI b) (s.1 1) (nI v) FU (nI (min a b)) = some r := f1
      have f2 : lp_X8_pass_33 (nI a) (nI b) (t.2.2 1) FU 1 (nI (min a b)) = some r' := f2
      simp only [Option.bind_some, lt_, f1, f2]
      obtain ⟨q1, q2⟩ := q
      rcases q1 with ⟨g1, g2⟩ | ⟨g1, g2⟩
      · rw [if_pos g2, g1, q2]
        exact ⟨_, _, _, rfl, rfl, hT, hK, hC, hF, hX⟩
      · rw [if_neg (by rw [g2]; decide), g1, q2]
        exact ⟨_, _, _, rfl, rfl, hT, hK, hC, hF, hX⟩
