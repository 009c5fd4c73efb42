/-! pure: what fits -/
theorem n4m (n : Nat) : (82 : Int32) + (4 : Int32) * nI n = nI (82 + 4 * n) := by
  rw [show (4 : Int32) * nI n = nI (4 * n) from pk_mul 4 n]; exact nI_add 82 _
theorem n5m (n : Nat) : (107 : Int32) + (5 : Int32) * nI n = nI (107 + 5 * n) := by
  rw [show (5 : Int32) * nI n = nI (5 * n) from pk_mul 5 n]; exact nI_add 107 _
theorem isM0 {n : Nat} {kd : Int32} {w : Nat → Int32} (hn : n ≤ 6) (hw : w 81 = nI n) : ∀ (d fu i : Nat), i + d = n → d < fu → ∃ r : Int32 × Int32, lp_X8_is_16 w kd fu 0 (nI (82 + 4 * i)) = some r ∧ r.1 = 0 := by
  intro d
  induction d with
  | zero =>
    intro fu i h1 h2
    obtain ⟨f, rfl⟩ : ∃ f, fu = f + 1 := ⟨fu - 1, by omega⟩
    obtain rfl : i = n := by omega
    refine ⟨(0, nI (82 + 4 * i)), ?_, rfl⟩
    rw [lp_X8_is_16]
    simp only [cl_81, hw, n4m]
    rw [if_pos (Int32.le_refl _)]
  | succ d ih =>
    intro fu i h1 h2
    obtain ⟨f, rfl⟩ : ∃ f, fu = f + 1 := ⟨fu - 1, by omega⟩
    obtain ⟨r, r1, r2⟩ := ih f (i + 1) (by omega) (by omega)
    refine ⟨r, ?_, r2⟩
    rw [lp_X8_is_16]
    simp only [cl_81, hw, n4m]
    rw [if_neg (nI_ge (by omega) (by omega)), if_pos trivial, show nI (82 + 4 * i) + 4 = nI (82 + 4 * (i + 1)) from nI_add _ 4]
    exact r1
theorem fits_eq {n : Nat} {kd : Int32} {notes w : Nat → Int32} (hn : n ≤ 6) (hw : w 81 = nI n) (hv : ∀ i : Nat, i < n → yr (notes (4 * i + 2)) ∧ ∀ j : Nat, j < 4 → notes (4 * i + j) = w (82 + (4 * i + j))) : ∃ (r : Int32) (r' : Int32 × Int32), sp_X6_notesFit kd (nI n) notes = some r ∧ lp_X8_is_16 w kd FU 1 82 = some r' ∧ r'.1 = r ∧ (r = 0 ∨ r = 1) := by
  obtain ⟨r, r', e1, e2, q⟩ := lk (L := fun fu (x : Int32) => lp_X6_notesFit_2 kd (nI n) notes fu x) (M := fun fu (x : Int32 × Int32) => lp_X8_is_16 w kd fu x.1 x.2)
    (fun d x y => y.1 = 1 ∧ ∃ i : Nat, i + d = n ∧ x = nI i ∧ y.2 = nI (82 + 4 * i)) (fun r k => k.1 = r ∧ (r = 0 ∨ r = 1)) (by
    rintro d fu x ⟨b, y⟩ hd ⟨hb, i, hi, rfl, e⟩
    simp only at hb e
    subst hb; subst e
    dsimp only
    rw [lp_X6_notesFit_2, lp_X8_is_16]
    simp only [cl_81, hw, n4m]
    cases d with
    | zero =>
      obtain rfl : i = n := by omega
      rw [if_pos (Int32.le_refl _), if_pos (Int32.le_refl _)]
      exact Or.inl ⟨_, _, rfl, rfl, rfl, Or.inr rfl⟩
    | succ d =>
      obtain ⟨g1, g2⟩ := hv i (by omega)
      have k0 := g2 0 (by omega)
      have k1 := g2 1 (by omega)
      have k2 := g2 2 (by omega)
      have k3 := g2 3 (by omega)
      have x4 : nI i * 4 = nI (4 * i) := by rw [Nat.mul_comm]; exact pk_mul i 4
      have x5 : nI (4 * i) + 2 = nI (4 * i + 2) := nI_add _ 2
      have x6 : nI (4 * i) + 3 = nI (4 * i + 3) := nI_add _ 3
      have y6 : nI (82 + 4 * i) + 2 = nI (82 + 4 * i + 2) := nI_add _ 2
      have y7 : nI (82 + 4 * i) + 3 = nI (82 + 4 * i + 3) := nI_add _ 3
      rw [if_neg (nI_ge (by omega) (by omega)), if_neg (nI_ge (by omega) (by omega)), if_neg (show ¬ (1 : Int32) = 0 from by decide)]
      simp only [x4, x5, x6, y6, y7, nI_1]
      rw [at_n (by omega) (by omega), at_n (by omega) (by omega), at_n (by omega) (by omega), at_n (by omega) (by omega), gi_n (by omega) (by omega), gi_n (by omega) (by omega), gi_n (by omega) (by omega), gi_n (by omega) (by omega), nI_clamp (by omega), nI_clamp (by omega), nI_clamp (by omega), nI_clamp (by omega), beh_eq g1]
      rw [show 82 + 4 * i + 1 = 82 + (4 * i + 1) by omega, show 82 + 4 * i + 2 = 82 + (4 * i + 2) by omega, show 82 + 4 * i + 3 = 82 + (4 * i + 3) by omega, ← k1, ← k2, ← k3, show w (82 + 4 * i) = notes (4 * i) from k0.symm, show nI (82 + 4 * i) + 4 = nI (82 + 4 * (i + 1)) from nI_add _ 4]
      by_cases c : sp_X8_behind kd (notes (4 * i)) (notes (4 * i + 1)) (notes (4 * i + 2)) = notes (4 * i + 3)
      · rw [if_pos c, if_pos c]
        exact Or.inr ⟨d, _, (_, _), rfl, rfl, rfl, rfl, i + 1, by omega, rfl, rfl⟩
      · rw [if_neg c, if_neg c]
        obtain ⟨r, r1, r2⟩ := isM0 (kd := kd) hn hw d fu (i + 1) (by omega) (by omega)
        exact Or.inl ⟨_, r, rfl, r1, r2, Or.inl rfl⟩) n FU (nI 0) (1, nI 82) (by rw [FU_eq]; omega) ⟨rfl, 0, by omega, rfl, rfl⟩
  exact ⟨r, r', e1, e2, q⟩
theorem is_eq {n : Nat} {notes w : Nat → Int32} (hn : n ≤ 6) (hw : w 81 = nI n) (hv : ∀ i : Nat, i < n → yr (notes (4 * i + 2)) ∧ ∀ j : Nat, j < 4 → notes (4 * i + j) = w (82 + (4 * i + j))) : ∃ v : Nat, v < 64 ∧ sp_X7_is (nI n) notes = some (nI v) ∧ sp_X8_is w = some (nI v) := by
  obtain ⟨r, r', e1, e2, v, hv1, q1, q2⟩ := lk (L := fun fu (s : Int32 × Int32) => lp_X7_is_4 (nI n) notes fu s.1 s.2) (M := fun fu (s : Int32 × Int32) => lp_X8_is_4 w fu s.1 s.2)
    (fun d s t' => s = t' ∧ ∃ i v : Nat, i + d = 6 ∧ s.2 = nI i ∧ v < 64 ∧ s.1 = nI v) (fun r k => ∃ v : Nat, v < 64 ∧ r.1 = nI v ∧ k.1 = nI v) (by
    rintro d fu ⟨a, y⟩ s' hd ⟨rfl, i, v, hi, e, hv1, ea⟩
    simp only at e ea
    subst e; subst ea
    dsimp only
    rw [lp_X7_is_4, lp_X8_is_4]
    cases d with
    | zero =>
      obtain rfl : i = 6 := by omega
      rw [if_pos (show (6 : Int32) ≤ nI 6 from by decide), if_pos (show (6 : Int32) ≤ nI 6 from by decide)]
      exact Or.inl ⟨_, _, rfl, rfl, v, hv1, rfl, rfl⟩
    | succ d =>
      obtain ⟨r, r', f1, f2, f3, f4⟩ := fits_eq (kd := nI i) hn hw hv
      rw [if_neg (show ¬ (6 : Int32) ≤ nI _ from nI_ge (b := 6) (by omega) (by omega)), if_neg (show ¬ (6 : Int32) ≤ nI _ from nI_ge (b := 6) (by omega) (by omega)), f1, f2]
      simp only [Option.bind_some, lt_, f3, nI_1]
      by_cases c : r = 0
      · rw [if_pos c, if_pos c, or0]
        exact Or.inr ⟨d, (nI v, nI (i + 1)), (nI v, nI (i + 1)), rfl, rfl, rfl, rfl, i + 1, v, by omega, rfl, hv1, rfl⟩
      · obtain ⟨b1, b2⟩ := bit_or v hv1 i (by omega)
        rw [if_neg c, if_neg c, b1]
        exact Or.inr ⟨d, (nI (v ||| 2 ^ i), nI (i + 1)), (nI (v ||| 2 ^ i), nI (i + 1)), rfl, rfl, rfl, rfl, i + 1, v ||| 2 ^ i, by omega, rfl, b2, rfl⟩) 6 FU (nI 0, nI 0) (nI 0, nI 0) (by rw [FU_eq]; omega) ⟨rfl, 0, 0, by omega, rfl, by omega, rfl⟩
  have e1 : lp_X7_is_4 (nI n) notes FU 0 0 = some r := e1
  have e2 : lp_X8_is_4 w FU 0 0 = some r' := e2
  refine ⟨v, hv1, ?_, ?_⟩
  · unfold sp_X7_is; rw [e1, ← q1]; rfl
  · unfold sp_X8_is; rw [e2, ← q2]; rfl
theorem st_is (s : CSt) (t : MSt) (h : REL s t) : ∃ (r : Int32) (s1 : CSt) (t1 : MSt), S7_is s = some (r, s1) ∧ S8_is t = some (r, t1) ∧ REL s1 t1 := by
  obtain ⟨hT, hK, hC, hF, hX⟩ := h
  unfold S7_is S8_is
  obtain ⟨n, hn, e1, e2, e3⟩ := hT.notes
  obtain ⟨v, hv, v1, v2⟩ := is_eq hn e2 e3
  rw [e1, v1, v2]
  exact ⟨_, _, _, rfl, rfl, hT, hK, hC, hF, hX⟩
theorem mkM0 {n : Nat} {nm kd : Int32} {w : Nat → Int32} (hn : n ≤ 6) (hw : w 106 = nI n) : ∀ (d fu i : Nat), i + d = n → d < fu → ∃ r : Int32 × Int32, lp_X8_kindsBy_17 nm w kd fu 0 (nI (107 + 5 * i)) = some r ∧ r.1 = 0 := by
  intro d
  induction d with
  | zero =>
    intro fu i h1 h2
    obtain ⟨f, rfl⟩ : ∃ f, fu = f + 1 := ⟨fu - 1, by omega⟩
    obtain rfl : i = n := by omega
    refine ⟨(0, nI (107 + 5 * i)), ?_, rfl⟩
    rw [lp_X8_kindsBy_17]
    simp only [cl_106, hw, n5m]
    rw [if_pos (Int32.le_refl _)]
  | succ d ih =>
    intro fu i h1 h2
    obtain ⟨f, rfl⟩ : ∃ f, fu = f + 1 := ⟨fu - 1, by omega⟩
    obtain ⟨r, r1, r2⟩ := ih f (i + 1) (by omega) (by omega)
    refine ⟨r, ?_, r2⟩
    rw [lp_X8_kindsBy_17]
    have y6 : nI (107 + 5 * i) + 2 = nI (107 + 5 * i + 2) := nI_add _ 2
    have y7 : nI (107 + 5 * i) + 3 = nI (107 + 5 * i + 3) := nI_add _ 3
    simp only [cl_106, hw, n5m, y6, y7, nI_1]
    rw [if_neg (nI_ge (by omega) (by omega)), gi_n (by omega) (by omega), gi_n (by omega) (by omega), gi_n (by omega) (by omega), if_pos trivial, show nI (107 + 5 * i) + 5 = nI (107 + 5 * (i + 1)) from nI_add _ 5]
    exact r1
theorem marks_eq {n : Nat} {nm kd : Int32} {marks w : Nat → Int32} (hn : n ≤ 6) (hw : w 106 = nI n) (hv : ∀ i : Nat, i < n → bt (marks (5 * i + 1)) ∧ ∀ j : Nat, j < 5 → marks (5 * i + j) = w (107 + (5 * i + j))) : ∃ (r : Int32) (r' : Int32 × Int32), sp_X6_marksFit nm kd (nI n) marks = some r ∧ lp_X8_kindsBy_17 nm w kd FU 1 107 = some r' ∧ r'.1 = r ∧ (r = 0 ∨ r = 1) := by
  obtain ⟨r, r', e1, e2, q⟩ := lk (L := fun fu (x : Int32) => lp_X6_marksFit_2 nm kd (nI n) marks fu x) (M := fun fu (x : Int32 × Int32) => lp_X8_kindsBy_17 nm w kd fu x.1 x.2)
    (fun d x y => y.1 = 1 ∧ ∃ i : Nat, i + d = n ∧ x = nI i ∧ y.2 = nI (107 + 5 * i)) (fun r k => k.1 = r ∧ (r = 0 ∨ r = 1)) (by
    rintro d fu x ⟨b, y⟩ hd ⟨hb, i, hi, rfl, e⟩
    simp only at hb e
    subst hb; subst e
    dsimp only
    rw [lp_X6_marksFit_2, lp_X8_kindsBy_17]
    simp only [cl_106, hw, n5m]
    cases d with
    | zero =>
      obtain rfl : i = n := by omega
      rw [if_pos (Int32.le_refl _), if_pos (Int32.le_refl _)]
      exact Or.inl ⟨_, _, rfl, rfl, rfl, Or.inr rfl⟩
    | succ d =>
      obtain ⟨g1, g2⟩ := hv i (by omega)
      have k0 := g2 0 (by omega)
      have k1 := g2 1 (by omega)
      have k2 := g2 2 (by omega)
      have k3 := g2 3 (by omega)
      have k4 := g2 4 (by omega)
      have x4 : nI i * 5 = nI (5 * i) := by rw [Nat.mul_comm]; exact pk_mul i 5
      have x5 : nI (5 * i) + 2 = nI (5 * i + 2) := nI_add _ 2
      have x6 : nI (5 * i) + 3 = nI (5 * i + 3) := nI_add _ 3
      have x7 : nI (5 * i) + 4 = nI (5 * i + 4) := nI_add _ 4
      have y6 : nI (107 + 5 * i) + 2 = nI (107 + 5 * i + 2) := nI_add _ 2
      have y7 : nI (107 + 5 * i) + 3 = nI (107 + 5 * i + 3) := nI_add _ 3
      have y8 : nI (107 + 5 * i) + 4 = nI (107 + 5 * i + 4) := nI_add _ 4
      rw [if_neg (nI_ge (by omega) (by omega)), if_neg (nI_ge (by omega) (by omega))]
      simp only [x4, x5, x6, x7, y6, y7, y8, nI_1, lt_]
      rw [at_n (by omega) (by omega), at_n (by omega) (by omega), at_n (by omega) (by omega), at_n (by omega) (by omega), at_n (by omega) (by omega), gi_n (by omega) (by omega), gi_n (by omega) (by omega), gi_n (by omega) (by omega), if_neg (show ¬ (1 : Int32) = 0 from by decide), gi_n (by omega) (by omega), gi_n (by omega) (by omega), nI_clamp (by omega), nI_clamp (by omega), nI_clamp (by omega), nI_clamp (by omega), nI_clamp (by omega)]
      rw [show 107 + 5 * i + 1 = 107 + (5 * i + 1) by omega, show 107 + 5 * i + 2 = 107 + (5 * i + 2) by omega, show 107 + 5 * i + 3 = 107 + (5 * i + 3) by omega, show 107 + 5 * i + 4 = 107 + (5 * i + 4) by omega, ← k1, ← k2, ← k3, ← k4, show w (107 + 5 * i) = marks (5 * i) from k0.symm, show nI (107 + 5 * i) + 5 = nI (107 + 5 * (i + 1)) from nI_add _ 5, stands_eq g1]
      by_cases c : marks (5 * i) = nm
      · rw [if_pos c, if_pos c]
        by_cases c2 : sp_X8_stands kd (marks (5 * i + 1)) (marks (5 * i + 2)) (marks (5 * i + 3)) = if marks (5 * i + 4) = 1 then 1 else 0
        · rw [if_pos c2, if_pos c2]
          exact Or.inr ⟨d, _, (_, _), rfl, rfl, rfl, rfl, i + 1, by omega, rfl, rfl⟩
        · rw [if_neg c2, if_neg c2]
          obtain ⟨r, r1, r2⟩ := mkM0 (nm := nm) (kd := kd) hn hw d fu (i + 1) (by omega) (by omega)
          exact Or.inl ⟨_, r, rfl, r1, r2, Or.inl rfl⟩
      · rw [if_neg c, if_neg c]
        exact Or.inr ⟨d, _, (_, _), rfl, rfl, rfl, rfl, i + 1, by omega, rfl, rfl⟩) n FU (nI 0) (1, nI 107) (by rw [FU_eq]; omega) ⟨rfl, 0, by omega, rfl, rfl⟩
  exact ⟨r, r', e1, e2, q⟩
theorem kinds_eq {n : Nat} {nm : Int32} {marks w : Nat → Int32} (hn : n ≤ 6) (hw : w 106 = nI n) (hv : ∀ i : Nat, i < n → bt (marks (5 * i + 1)) ∧ ∀ j : Nat, j < 5 → marks (5 * i + j) = w (107 + (5 * i + j))) : ∃ v : Nat, v < 64 ∧ (∃ r : Int32 × Int32, lp_X7_kinds_18 nm (nI n) marks FU 0 0 = some r ∧ r.1 = nI v) ∧ sp_X8_kindsBy nm w = some (nI v) := by
  obtain ⟨r, r', e1, e2, v, hv1, q1, q2⟩ := lk (L := fun fu (s : Int32 × Int32) => lp_X7_kinds_18 nm (nI n) marks fu s.1 s.2) (M := fun fu (s : Int32 × Int32) => lp_X8_kindsBy_4 nm w fu s.1 s.2)
    (fun d s t' => s = t' ∧ ∃ i v : Nat, i + d = 6 ∧ s.2 = nI i ∧ v < 64 ∧ s.1 = nI v) (fun r k => ∃ v : Nat, v < 64 ∧ r.1 = nI v ∧ k.1 = nI v) (by
    rintro d fu ⟨a, y⟩ s' hd ⟨rfl, i, v, hi, e, hv1, ea⟩
    simp only at e ea
    subst e; subst ea
    dsimp only
    rw [lp_X7_kinds_18, lp_X8_kindsBy_4]
    cases d with
    | zero =>
      obtain rfl : i = 6 := by omega
      rw [if_pos (show (6 : Int32) ≤ nI 6 from by decide), if_pos (show (6 : Int32) ≤ nI 6 from by decide)]
      exact Or.inl ⟨_, _, rfl, rfl, v, hv1, rfl, rfl⟩
    | succ d =>
      obtain ⟨r, r', f1, f2, f3, f4⟩ := marks_eq (nm := nm) (kd := nI i) hn hw hv
      rw [if_neg (show ¬ (6 : Int32) ≤ nI _ from nI_ge (b := 6) (by omega) (by omega)), if_neg (show ¬ (6 : Int32) ≤ nI _ from nI_ge (b := 6) (by omega) (by omega)), f1, f2]
      simp only [Option.bind_some, lt_, f3, nI_1]
      by_cases c : r = 0
      · rw [if_pos c, if_pos c, or0]
        exact Or.inr ⟨d, (nI v, nI (i + 1)), (nI v, nI (i + 1)), rfl, rfl, rfl, rfl, i + 1, v, by omega, rfl, hv1, rfl⟩
      · obtain ⟨b1, b2⟩ := bit_or v hv1 i (by omega)
        rw [if_neg c, if_neg c, b1]
        exact Or.inr ⟨d, (nI (v ||| 2 ^ i), nI (i + 1)), (nI (v ||| 2 ^ i), nI (i + 1)), rfl, rfl, rfl, rfl, i + 1, v ||| 2 ^ i, by omega, rfl, b2, rfl⟩) 6 FU (nI 0, nI 0) (nI 0, nI 0) (by rw [FU_eq]; omega) ⟨rfl, 0, 0, by omega, rfl, by omega, rfl⟩
  have e1 : lp_X7_kinds_18 nm (nI n) marks FU 0 0 = some r := e1
  have e2 : lp_X8_kindsBy_4 nm w FU 0 0 = some r' := e2
  refine ⟨v, hv1, ⟨r, e1, q1⟩, ?_⟩
  unfold sp_X8_kindsBy; rw [e2, ← q2]; rfl
theorem st_kinds (p1 : Int32) (s : CSt) (t : MSt) (h : REL s t) : ∃ (r : Int32) (s1 : CSt) (t1 : MSt), S7_kinds p1 s = some (r, s1) ∧ S8_kinds p1 t = some (r, t1) ∧ REL s1 t1 := by
  obtain ⟨hT, hK, hC, hF, hX⟩ := h
  unfold S7_kinds S8_kinds sp_X7_kinds sp_X8_kinds
  by_cases c0 : sp_X8_in p1 0 9 = 0
  · rw [if_pos (show sp_X7_isName p1 = 0 from c0), if_pos c0]
    exact ⟨_, _, _, rfl, rfl, hT, hK, hC.bad rfl rfl rfl rfl rfl rfl, hF, hX⟩
  · rw [if_neg (show ¬ sp_X7_isName p1 = 0 from c0), if_neg c0]
    obtain ⟨n, hn, e1, e2, e3⟩ := hT.marks
    obtain ⟨v, hv, ⟨r, v1, v2⟩, v3⟩ := kinds_eq (nm := p1) hn e2 e3
    rw [e1, v1, v3]
    exact stp rfl rfl (by show nI v = r.1; rw [v2]) hT hK hC hF hX
theorem bit_cnt : ∀ v : Nat, v < 64 → ∃ c : Nat, c < 7 ∧ sp_J6_bitCount_0f7a4 (nI v) = nI c := by
  have h : ∀ v : Nat, v < 64 → (sp_J6_bitCount_0f7a4 (nI v)).toNatClampNeg < 7 ∧ sp_J6_bitCount_0f7a4 (nI v) = nI (sp_J6_bitCount_0f7a4 (nI v)).toNatClampNeg := by decide +kernel
  exact fun v hv => ⟨_, h v hv⟩
theorem bt_n {a : Nat} (h : a ≤ 9) : bt (nI a) := by unfold bt; rw [nI_toInt (by omega)]; omega
theorem part_eq {v a : Nat} {l : Int32} (hv : v < 64) (ha : a ≤ 9) : ∃ c : Nat, c ≤ 6 ∧ (∃ r : Int32 × Int32, lp_X7_greaterPart_5 (nI v) (nI a) l FU 0 0 = some r ∧ r.1 = nI c) ∧ ∃ r : Int32 × Int32, lp_X8_tries_53 (nI v) (nI a) l FU 0 0 = some r ∧ r.1 = nI c := by
  obtain ⟨r, r', e1, e2, c, hc, q1, q2⟩ := lk (L := fun fu (s : Int32 × Int32) => lp_X7_greaterPart_5 (nI v) (nI a) l fu s.1 s.2) (M := fun fu (s : Int32 × Int32) => lp_X8_tries_53 (nI v) (nI a) l fu s.1 s.2)
    (fun d s t' => s = t' ∧ ∃ i c : Nat, i + d = 6 ∧ s.2 = nI i ∧ c ≤ i ∧ s.1 = nI c) (fun r k => ∃ c : Nat, c ≤ 6 ∧ r.1 = nI c ∧ k.1 = nI c) (by
    rintro d fu ⟨x, y⟩ s' hd ⟨rfl, i, c, hi, e, hc, ea⟩
    simp only at e ea
    subst e; subst ea
    dsimp only
    rw [lp_X7_greaterPart_5, lp_X8_tries_53]
    cases d with
    | zero =>
      obtain rfl : i = 6 := by omega
      rw [if_pos (show (6 : Int32) ≤ nI 6 from by decide), if_pos (show (6 : Int32) ≤ nI 6 from by decide)]
      exact Or.inl ⟨_, _, rfl, rfl, c, by omega, rfl, rfl⟩
    | succ d =>
      rw [if_neg (show ¬ (6 : Int32) ≤ nI _ from nI_ge (b := 6) (by omega) (by omega)), if_neg (show ¬ (6 : Int32) ≤ nI _ from nI_ge (b := 6) (by omega) (by omega)), has_eq, stands_eq (bt_n ha)]
      simp only [lt_, nI_1]
      by_cases c1 : sp_X8_has (nI v) (nI i) = 0
      · rw [if_pos c1, if_pos c1, Int32.add_zero]
        exact Or.inr ⟨d, (nI c, nI (i + 1)), (nI c, nI (i + 1)), rfl, rfl, rfl, rfl, i + 1, c, by omega, rfl, by omega, rfl⟩
      · rw [if_neg c1, if_neg c1]
        by_cases c2 : sp_X8_stands (nI i) (nI a) 0 l = 0
        · rw [if_pos c2, if_pos c2, Int32.add_zero]
          exact Or.inr ⟨d, (nI c, nI (i + 1)), (nI c, nI (i + 1)), rfl, rfl, rfl, rfl, i + 1, c, by omega, rfl, by omega, rfl⟩
        · rw [if_neg c2, if_neg c2, nI_1]
          exact Or.inr ⟨d, (nI (c + 1), nI (i + 1)), (nI (c + 1), nI (i + 1)), rfl, rfl, rfl, rfl, i + 1, c + 1, by omega, rfl, by omega, rfl⟩) 6 FU (nI 0, nI 0) (nI 0, nI 0) (by rw [FU_eq]; omega) ⟨rfl, 0, 0, by omega, rfl, by omega, rfl⟩
  exact ⟨c, hc, ⟨r, e1, q1⟩, r', e2, q2⟩
theorem gp_max : ∀ c : Nat, c < 7 → ∀ o : Nat, o < 7 → j_max (nI c) (nI o - nI c) = if (2 : Int32) * nI c ≤ nI o then nI o - nI c else nI c := by decide +kernel
theorem tries_in {v a : Nat} {b0 l0 : Int32} {z : Int32} (hv : v < 64) (ha : a ≤ 9) : ∃ r r' : Int32 × Int32 × Int32, lp_X7_tries_45 (nI v, z) (nI a) FU b0 l0 0 = some r ∧ lp_X8_tries_40 (nI v) (nI a) FU b0 l0 0 = some r' ∧ r.1 = r'.1 ∧ r.2.1 = r'.2.1 := by
  refine lk (L := fun fu (s : Int32 × Int32 × Int32) => lp_X7_tries_45 (nI v, z) (nI a) fu s.1 s.2.1 s.2.2) (M := fun fu (s : Int32 × Int32 × Int32) => lp_X8_tries_40 (nI v) (nI a) fu s.1 s.2.1 s.2.2)
    (fun d s t' => s = t' ∧ ∃ i : Nat, i + d = 10 ∧ s.2.2 = nI i) (fun r k => r.1 = k.1 ∧ r.2.1 = k.2.1) (by
    rintro d fu ⟨b, l, y⟩ s' hd ⟨rfl, i, hi, e⟩
    simp only at e
    subst e
    dsimp only
    rw [lp_X7_tries_45, lp_X8_tries_40]
    cases d with
    | zero =>
      obtain rfl : i = 10 := by omega
      rw [if_pos (show (9 : Int32) < nI 10 from by decide), if_pos (show (10 : Int32) ≤ nI 10 from by decide)]
      exact Or.inl ⟨_, _, rfl, rfl, rfl, rfl⟩
    | succ d =>
      obtain ⟨c, hc, ⟨r, r1, r2⟩, r', r3, r4⟩ := part_eq (l := nI i) hv ha
      obtain ⟨o, ho, o1⟩ := bit_cnt v hv
      rw [if_neg (show ¬ (9 : Int32) < nI i from nI_nlt (b := i) (a := 9) (by omega) (by omega)), if_neg (show ¬ (10 : Int32) ≤ nI _ from nI_ge (b := 10) (by omega) (by omega))]
      unfold sp_X7_greaterPart
      rw [r1, r3, ones_eq hv, o1]
      simp only [Option.bind_some, r2, r4, lt_, nI_1]
      rw [gp_max c (by omega) o ho]
      have em : (if (2 : Int32) * nI c ≤ nI o then some (nI o - nI c) else some (nI c)) = some (if (2 : Int32) * nI c ≤ nI o then nI o - nI c else nI c) := by split <;> rfl
      rw [em]
      simp only [Option.bind_some]
      by_cases c1 : l ≤ if (2 : Int32) * nI c ≤ nI o then nI o - nI c else nI c
      · rw [if_pos c1, if_pos c1, if_pos c1]
        exact Or.inr ⟨d, (_, _, _), (_, _, _), rfl, rfl, rfl, rfl, i + 1, by omega, rfl⟩
      · rw [if_neg c1, if_neg c1, if_neg c1]
        exact Or.inr ⟨d, (_, _, _), (_, _, _), rfl, rfl, rfl, rfl, i + 1, by omega, rfl⟩) 10 FU (b0, l0, nI 0) (b0, l0, nI 0) (by rw [FU_eq]; omega) ⟨rfl, 0, by omega, rfl⟩
theorem tries_out {v : Nat} {z : Int32} (hv : v < 64) : ∃ r r' : Int32 × Int32 × Int32, lp_X7_tries_35 (nI v, z) FU (-1) 7 0 = some r ∧ lp_X8_tries_30 (nI v) FU (-1) 7 0 = some r' ∧ r.1 = r'.1 := by
  refine lk (L := fun fu (s : Int32 × Int32 × Int32) => lp_X7_tries_35 (nI v, z) fu s.1 s.2.1 s.2.2) (M := fun fu (s : Int32 × Int32 × Int32) => lp_X8_tries_30 (nI v) fu s.1 s.2.1 s.2.2)
    (fun d s t' => s = t' ∧ ∃ i : Nat, i + d = 10 ∧ s.2.2 = nI i) (fun r k => r.1 = k.1) (by
    rintro d fu ⟨b, l, y⟩ s' hd ⟨rfl, i, hi, e⟩
    simp only at e
    subst e
    dsimp only
    rw [lp_X7_tries_35, lp_X8_tries_30]
    cases d with
    | zero =>
      obtain rfl : i = 10 := by omega
      rw [if_pos (show (9 : Int32) < nI 10 from by decide), if_pos (show (10 : Int32) ≤ nI 10 from by decide)]
      exact Or.inl ⟨_, _, rfl, rfl, rfl⟩
    | succ d =>
      obtain ⟨r, r', e1, e2, q1, q2⟩ := tries_in (z := z) (b0 := b) (l0 := l) hv (show i ≤ 9 by omega)
      rw [if_neg (show ¬ (9 : Int32) < nI i from nI_nlt (b := i) (a := 9) (by omega) (by omega)), if_neg (show ¬ (10 : Int32) ≤ nI _ from nI_ge (b := 10) (by omega) (by omega)), e1, e2, nI_1]
      simp only [Option.bind_some]
      rw [q1, q2]
      exact Or.inr ⟨d, (_, _, _), (_, _, _), rfl, rfl, rfl, rfl, i + 1, by omega, rfl⟩) 10 FU (-1, 7, nI 0) (-1, 7, nI 0) (by rw [FU_eq]; omega) ⟨rfl, 0, by omega, rfl⟩
theorem st_tries (p1 : Int32) (s : CSt) (t : MSt) (h : REL s t) : ∃ (r : Int32) (s1 : CSt) (t1 : MSt), S7_tries p1 s = some (r, s1) ∧ S8_tries p1 t = some (r, t1) ∧ REL s1 t1 := by
  obtain ⟨hT, hK, hC, hF, hX⟩ := h
  unfold S7_tries S8_tries sp_X7_tries sp_X8_tries
  by_cases c0 : sp_X8_in p1 0 9 = 0
  · rw [if_pos (show sp_X7_isName p1 = 0 from c0), if_pos c0]
    exact ⟨_, _, _, rfl, rfl, hT, hK, hC.bad rfl rfl rfl rfl rfl rfl, hF, hX⟩
  · rw [if_neg (show ¬ sp_X7_isName p1 = 0 from c0), if_neg c0]
    obtain ⟨n, hn, e1, e2, e3⟩ := hT.marks
    obtain ⟨v, hv, ⟨r, v1, v2⟩, v3⟩ := kinds_eq (nm := p1) hn e2 e3
    unfold sp_X7_kinds
    rw [if_neg (show ¬ sp_X7_isName p1 = 0 from c0), e1, v1, v3]
    simp only [Option.bind_some]
    obtain ⟨u, u', f1, f2, f3⟩ := tries_out (z := s.1 1) hv
    rw [f2, v2]
    simp only [Option.bind_some]
    by_cases c : nI v = 0
    · rw [if_pos c, if_pos c]
      exact ⟨_, _, _, rfl, rfl, hT, hK, hC, hF, hX⟩
    · rw [if_neg c, if_neg c, f1]
      exact stp rfl rfl (by show u'.1 = u.1; rw [f3]) hT hK hC hF hX
