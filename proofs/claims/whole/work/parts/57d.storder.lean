/-! pure: kinds told by a number; the order -/
def okd (d : Nat) : Prop := 1 ≤ d ∧ d ≤ 6
theorem in16 : ∀ d : Nat, d < 10 → (okd d → sp_X8_in (nI d) 1 6 = 1) ∧ (¬ okd d → sp_X8_in (nI d) 1 6 = 0) := by
  intro d hd
  refine ⟨fun h => in_yes (lo := 1) (hi := 6) h.1 h.2 (by omega), fun h => ?_⟩
  by_cases c : sp_X8_in (nI d) 1 6 = 0
  · exact c
  · obtain ⟨n, h1, h2, h3⟩ := in_nat (lo := 1) (hi := 6) c (by omega) (by omega)
    have := (nI_eq (by omega) (by omega)).mp h3
    exact absurd (⟨by omega, by omega⟩ : okd d) h
theorem d10 {x : Nat} (hx : x < 2 ^ 31) : nI x / 10 = nI (x / 10) := pk_div (d := 10) hx (by omega) (by omega)
theorem r10 {x : Nat} (hx : x < 2 ^ 31) : nI x - nI x / 10 * 10 = nI (x % 10) := pk_rem (d := 10) hx (by omega) (by omega)
theorem fg0 {fu : Nat} {c x : Int32} : ∃ r : Int32 × Int32 × Int32, lp_X8_figures_13 (fu + 1) c x 0 = some r ∧ r.2.2 = 0 := by
  refine ⟨(c, x, 0), ?_, rfl⟩
  rw [lp_X8_figures_13, if_pos (show (0 : Int32) = 0 from rfl)]
  split <;> rfl
theorem fig_all : ∀ (m x c fu : Nat), x < 10 ^ m → (0 < m → 10 ^ (m - 1) ≤ x) → x < 2 ^ 31 → m < fu → ∃ r : Int32 × Int32 × Int32, lp_X8_figures_13 fu (nI c) (nI x) 1 = some r ∧ (((∀ j : Nat, j < m → okd (x / 10 ^ j % 10)) ∧ r.1 = nI (c + m) ∧ r.2.2 = 1) ∨ ((¬ ∀ j : Nat, j < m → okd (x / 10 ^ j % 10)) ∧ r.2.2 = 0)) := by
  intro m
  induction m with
  | zero =>
    intro x c fu h1 _ h3 h4
    obtain ⟨f, rfl⟩ : ∃ f, fu = f + 1 := ⟨fu - 1, by omega⟩
    rw [Nat.pow_zero] at h1
    obtain rfl : x = 0 := by omega
    refine ⟨(nI c, nI 0, 1), ?_, Or.inl ⟨fun j hj => absurd hj (by omega), rfl, rfl⟩⟩
    rw [lp_X8_figures_13, if_pos (show nI 0 ≤ 0 from by decide)]
  | succ m ih =>
    intro x c fu h1 h2 h3 h4
    obtain ⟨f, rfl⟩ : ∃ f, fu = f + 1 := ⟨fu - 1, by omega⟩
    have h2 : 10 ^ m ≤ x := by have := h2 (by omega); rwa [Nat.add_sub_cancel] at this
    have hp : 0 < 10 ^ m := Nat.pow_pos (by omega)
    have h10 : 10 ^ (m + 1) = 10 ^ m * 10 := Nat.pow_succ 10 m
    have hsh : ∀ j : Nat, x / 10 ^ (j + 1) % 10 = x / 10 / 10 ^ j % 10 := fun j => by
      rw [Nat.pow_succ, Nat.mul_comm (10 ^ j) 10, ← Nat.div_div_eq_div_mul]
    rw [lp_X8_figures_13, if_neg (nI_nle (by omega) h3), if_neg (show ¬ (1 : Int32) = 0 from by decide), r10 h3, d10 h3, nI_1]
    have hi := in16 (x % 10) (Nat.mod_lt _ (by omega))
    by_cases k : okd (x % 10)
    · rw [hi.1 k]
      obtain ⟨r, e, q⟩ := ih (x / 10) (c + 1) f (by omega) (fun hm => by
        have h11 : 10 ^ m = 10 ^ (m - 1) * 10 := by rw [← Nat.pow_succ]; congr 1; omega
        omega) (by omega) (by omega)
      refine ⟨r, e, ?_⟩
      rcases q with ⟨q1, q2, q3⟩ | ⟨q1, q2⟩
      · refine Or.inl ⟨fun j hj => ?_, by rw [q2]; congr 1; omega, q3⟩
        cases j with
        | zero => rw [Nat.pow_zero, Nat.div_one]; exact k
        | succ j => rw [hsh]; exact q1 j (by omega)
      · exact Or.inr ⟨fun h => q1 (fun j hj => by rw [← hsh]; exact h (j + 1) (by omega)), q2⟩
    · rw [hi.2 k]
      obtain ⟨f', rfl⟩ : ∃ f', f = f' + 1 := ⟨f - 1, by omega⟩
      obtain ⟨r, e, q⟩ := fg0 (fu := f') (c := nI (c + 1)) (x := nI (x / 10))
      refine ⟨r, e, Or.inr ⟨fun h => k ?_, q⟩⟩
      have := h 0 (by omega)
      rwa [Nat.pow_zero, Nat.div_one] at this
theorem tkA {fu x sc : Nat} {y : Int32} {f : Nat → Int32} (h : x < sc) (hs : sc < 2 ^ 31) : lp_X1_takesKinds_22 (nI x) (fu + 1) (nI sc) y f = lp_X1_takesKinds_22 (nI x) fu (nI (sc / 10)) y f := by
  rw [lp_X1_takesKinds_22, if_neg (nI_nle (by omega) hs), gd_t (nI_ne0 (by omega) hs), if_pos (nI_lt h hs), if_pos (nI_lt h hs), d10 hs]
  rfl
theorem tkV {x sc : Nat} (h : sc ≤ x) (h0 : 0 < sc) (hx : x < 2 ^ 31) : nI x / nI sc - nI x / nI sc / 10 * 10 = nI (x / sc % 10) := by
  have h2 : x / sc < 2 ^ 31 := Nat.lt_of_le_of_lt (Nat.div_le_self x sc) hx
  rw [pk_div hx h0 (by omega), r10 h2]
theorem tkB {fu x sc i : Nat} {f : Nat → Int32} (h : sc ≤ x) (h0 : 0 < sc) (hx : x < 2 ^ 31) (hi : i < 4) (k : okd (x / sc % 10)) : lp_X1_takesKinds_22 (nI x) (fu + 1) (nI sc) (nI i) f = lp_X1_takesKinds_22 (nI x) fu (nI (sc / 10)) (nI (i + 1)) (upd f i (nI (x / sc % 10) - 1)) := by
  rw [lp_X1_takesKinds_22, if_neg (nI_nle (by omega) (by omega)), gd_t (nI_ne0 (by omega) (by omega)), if_neg (nI_nlt h hx), tkV h h0 hx, in_eq, (in16 _ (Nat.mod_lt _ (by omega))).1 k, if_neg (show ¬ (1 : Int32) = 0 from by decide), if_neg (nI_nlt h hx), put_n hi (by omega), d10 (show sc < 2 ^ 31 by omega), nI_1]
  rfl
theorem tkC {fu x sc : Nat} {y : Int32} {f : Nat → Int32} (h : sc ≤ x) (h0 : 0 < sc) (hx : x < 2 ^ 31) (k : ¬ okd (x / sc % 10)) : lp_X1_takesKinds_22 (nI x) (fu + 1) (nI sc) y f = some (0, y, f) := by
  rw [lp_X1_takesKinds_22, if_neg (nI_nle (by omega) (by omega)), gd_t (nI_ne0 (by omega) (by omega)), if_neg (nI_nlt h hx), tkV h h0 hx, in_eq, (in16 _ (Nat.mod_lt _ (by omega))).2 k, if_pos (show (0 : Int32) = 0 from rfl)]
/-- the scales: 1000, 100, 10, 1, 0 -/
def scl : Nat → Nat
  | 0 => 0
  | e + 1 => 10 ^ e
theorem scl_div : ∀ e : Nat, scl (e + 1) / 10 = scl e
  | 0 => by decide
  | e + 1 => by
    show 10 ^ (e + 1) / 10 = 10 ^ e
    rw [Nat.pow_succ, Nat.mul_div_cancel _ (by omega)]
theorem tk_all {m x : Nat} (hm : m ≤ 4) (h1 : x < 10 ^ m) (h2 : 0 < m → 10 ^ (m - 1) ≤ x) (hx : x < 2 ^ 31) : ∀ (e fu i : Nat) (f : Nat → Int32), i + e = m → e < fu → ∃ r : Int32 × Int32 × (Nat → Int32), lp_X1_takesKinds_22 (nI x) fu (nI (scl e)) (nI i) f = some r ∧ (((∀ j : Nat, j < e → okd (x / 10 ^ j % 10)) ∧ r.1 = 1 ∧ r.2.1 = nI m ∧ (∀ j : Nat, j < i → r.2.2 j = f j) ∧ ∀ j : Nat, i ≤ j → j < m → r.2.2 j = nI (x / 10 ^ (m - 1 - j) % 10) - 1) ∨ ((¬ ∀ j : Nat, j < e → okd (x / 10 ^ j % 10)) ∧ r.1 = 0)) := by
  intro e
  induction e with
  | zero =>
    intro fu i f hi hf
    obtain ⟨g, rfl⟩ : ∃ g, fu = g + 1 := ⟨fu - 1, by omega⟩
    obtain rfl : i = m := by omega
    refine ⟨(1, nI i, f), ?_, Or.inl ⟨fun j hj => absurd hj (by omega), rfl, rfl, fun _ _ => rfl, fun j a b => absurd a (by omega)⟩⟩
    show lp_X1_takesKinds_22 (nI x) (g + 1) (nI 0) (nI i) f = _
    rw [lp_X1_takesKinds_22, if_pos (show nI 0 ≤ 0 from by decide)]
  | succ e ih =>
    intro fu i f hi hf
    obtain ⟨g, rfl⟩ : ∃ g, fu = g + 1 := ⟨fu - 1, by omega⟩
    have hsx : 10 ^ e ≤ x := Nat.le_trans (Nat.pow_le_pow_right (by omega) (show e ≤ m - 1 by omega)) (h2 (by omega))
    have hs0 : 0 < 10 ^ e := Nat.pow_pos (by omega)
    have hd := scl_div e
    show ∃ r : Int32 × Int32 × (Nat → Int32), lp_X1_takesKinds_22 (nI x) (g + 1) (nI (10 ^ e)) (nI i) f = some r ∧ _
    by_cases k : okd (x / 10 ^ e % 10)
    · rw [tkB hsx hs0 hx (by omega) k, show 10 ^ e / 10 = scl e from hd]
      obtain ⟨r, f1, f2⟩ := ih g (i + 1) (upd f i (nI (x / 10 ^ e % 10) - 1)) (by omega) (by omega)
      refine ⟨r, f1, ?_⟩
      rcases f2 with ⟨q1, q2, q3, q4, q5⟩ | ⟨q1, q2⟩
      · refine Or.inl ⟨fun j hj => ?_, q2, q3, fun j hj => (q4 j (by omega)).trans (upd_o (by omega)), fun j a b => ?_⟩
        · by_cases c : j = e
          · rw [c]; exact k
          · exact q1 j (by omega)
        · by_cases c : j = i
          · subst c
            rw [q4 j (by omega), upd_s, show m - 1 - j = e by omega]
          · exact q5 j (by omega) b
      · exact Or.inr ⟨fun h => q1 (fun j hj => h j (by omega)), q2⟩
    · rw [tkC hsx hs0 hx k]
      exact ⟨_, rfl, Or.inr ⟨fun h => k (h e (by omega)), rfl⟩⟩
theorem figure_eq {m x j : Nat} (hm : m ≤ 4) (hj : j < m) (hx : x < 2 ^ 31) : sp_X8_figure (nI x) (nI m) (nI j) = some (nI (x / 10 ^ (m - 1 - j) % 10)) := by
  obtain ⟨r, e, q⟩ := lk1 (L := fun fu (s : Int32 × Int32) => lp_X8_figure_7 (nI j) fu s.1 s.2)
    (fun d s => j + d < m ∧ ∃ v : Nat, v < 2 ^ 31 ∧ s.1 = nI v ∧ s.2 = nI (j + d) ∧ v / 10 ^ d = x / 10 ^ (m - 1 - j)) (fun r => r.1 = nI (x / 10 ^ (m - 1 - j))) (by
    rintro d fu ⟨a, b⟩ hd ⟨hjd, v, hv, ea, eb, ev⟩
    simp only at ea eb
    subst ea; subst eb
    dsimp only
    rw [lp_X8_figure_7]
    cases d with
    | zero =>
      rw [if_pos (show nI (j + 0) ≤ nI j from Int32.le_refl _)]
      rw [Nat.pow_zero, Nat.div_one] at ev
      exact Or.inl ⟨_, rfl, by rw [ev]⟩
    | succ d =>
      rw [if_neg (nI_ge (by omega) (by omega)), d10 hv]
      refine Or.inr ⟨d, (nI (v / 10), nI (j + d)), rfl, ?_, by omega, v / 10, by omega, rfl, rfl, ?_⟩
      · show lp_X8_figure_7 (nI j) fu (nI (v / 10)) (nI (j + (d + 1)) + -1) = lp_X8_figure_7 (nI j) fu (nI (v / 10)) (nI (j + d))
        rw [show j + (d + 1) = (j + d) + 1 by omega, pk_m1]
      · rw [Nat.div_div_eq_div_mul, Nat.mul_comm, ← Nat.pow_succ]; exact ev) (m - 1 - j) FU (nI x, nI m - 1) (by rw [FU_eq]; omega) ⟨by omega, x, hx, rfl, by
      obtain ⟨e, rfl⟩ : ∃ e, m = e + 1 := ⟨m - 1, by omega⟩
      show nI (e + 1) - 1 = _
      rw [nI_pred]
      congr 1
      omega, rfl⟩
  have e : lp_X8_figure_7 (nI j) FU (nI x) (nI m - 1) = some r := e
  have h3 : x / 10 ^ (m - 1 - j) < 2 ^ 31 := Nat.lt_of_le_of_lt (Nat.div_le_self _ _) hx
  unfold sp_X8_figure
  rw [e]
  simp only [Option.bind_some]
  rw [q, r10 h3]
theorem takes_eq {p1 tn : Int32} {f : Nat → Int32} : (sp_X8_figures p1 = some 0 ∧ ∃ (a : Int32) (g : Nat → Int32), sp_X1_takesKinds p1 tn f = some (0, a, g)) ∨ ∃ (m : Nat) (K : Nat → Int32), 1 ≤ m ∧ m ≤ 4 ∧ sp_X8_figures p1 = some (nI m) ∧ sp_X1_takesKinds p1 tn f = some (1, nI m, K) ∧ ∀ j : Nat, j < m → sp_X8_figure p1 (nI m) (nI j) = some (K j + 1) := by
  obtain ⟨f0, hf0⟩ : ∃ f0, FU = f0 + 1 := ⟨2999, FU_eq⟩
  have fz : sp_X8_in p1 1 6666 = 0 → sp_X8_figures p1 = some 0 := fun c => by
    unfold sp_X8_figures
    rw [c, hf0]
    obtain ⟨r, e, q⟩ := fg0 (fu := f0) (c := 0) (x := p1)
    rw [e]
    simp only [Option.bind_some]
    rw [if_pos q]
  by_cases c : sp_X8_in p1 1 9999 = 0
  · refine Or.inl ⟨fz ?_, tn, f, ?_⟩
    · unfold sp_X8_in at c ⊢
      by_cases c1 : p1 < 1
      · rw [if_pos c1]
      · rw [if_neg c1] at c ⊢
        by_cases c2 : (9999 : Int32) < p1
        · rw [if_pos (by
            rw [Int32.lt_iff_toInt_lt] at c2 ⊢
            rw [show (9999 : Int32).toInt = 9999 from by decide] at c2
            rw [show (6666 : Int32).toInt = 6666 from by decide]
            omega)]
        · rw [if_neg c2] at c
          exact absurd c (by decide)
    · unfold sp_X1_takesKinds
      rw [in_eq, if_pos c]
  · obtain ⟨x, x1, x2, rfl⟩ := in_nat (lo := 1) (hi := 9999) c (by omega) (by omega)
    obtain ⟨m, m1, m4, mx, mx2⟩ : ∃ m : Nat, 1 ≤ m ∧ m ≤ 4 ∧ x < 10 ^ m ∧ 10 ^ (m - 1) ≤ x := by
      by_cases c1 : x < 10
      · exact ⟨1, by omega, by omega, by omega, by omega⟩
      · by_cases c2 : x < 100
        · exact ⟨2, by omega, by omega, by omega, by omega⟩
        · by_cases c3 : x < 1000
          · exact ⟨3, by omega, by omega, by omega, by omega⟩
          · exact ⟨4, by omega, by omega, by omega, by omega⟩
    have ht : ∀ fu : Nat, lp_X1_takesKinds_22 (nI x) (fu + 9) 1000 0 f = lp_X1_takesKinds_22 (nI x) (fu + 5 + m) (nI (scl m)) (nI 0) f := fun fu => by
      show lp_X1_takesKinds_22 (nI x) (fu + 9) (nI 1000) (nI 0) f = _
      have hc : m = 1 ∨ m = 2 ∨ m = 3 ∨ m = 4 := by omega
      rcases hc with rfl | rfl | rfl | rfl
      · rw [tkA (sc := 1000) (by omega) (by omega), show 1000 / 10 = 100 from rfl, tkA (sc := 100) (by omega) (by omega), show 100 / 10 = 10 from rfl, tkA (sc := 10) (by omega) (by omega)]; rfl
      · rw [tkA (sc := 1000) (by omega) (by omega), show 1000 / 10 = 100 from rfl, tkA (sc := 100) (by omega) (by omega)]; rfl
      · rw [tkA (sc := 1000) (by omega) (by omega)]; rfl
      · rfl
    obtain ⟨r, e1, q⟩ := tk_all (m := m) (x := x) m4 mx (fun _ => mx2) (by omega) m (2991 + 5 + m) 0 f (by omega) (by omega)
    have e2 : sp_X1_takesKinds (nI x) tn f = some r := by
      unfold sp_X1_takesKinds
      rw [in_eq, if_neg c, FU_eq, show 3000 = 2991 + 9 from rfl, ht, e1]
    rcases q with ⟨q1, q2, q3, _, q5⟩ | ⟨q1, q2⟩
    · have h66 : x ≤ 6666 := by
        have hc : m = 1 ∨ m = 2 ∨ m = 3 ∨ m = 4 := by omega
        rcases hc with rfl | rfl | rfl | rfl
        · omega
        · omega
        · omega
        · have a0 := (q1 0 (by omega)).2
          have a1 := (q1 1 (by omega)).2
          have a2 := (q1 2 (by omega)).2
          have a3 := (q1 3 (by omega)).2
          omega
      obtain ⟨z, f1, f2⟩ := fig_all m x 0 FU mx (fun _ => mx2) (by omega) (by rw [FU_eq]; omega)
      rcases f2 with ⟨_, g2, g3⟩ | ⟨g1, _⟩
      · refine Or.inr ⟨m, r.2.2, m1, m4, ?_, ?_, fun j hj => ?_⟩
        · unfold sp_X8_figures
          rw [show sp_X8_in (nI x) 1 6666 = 1 from in_yes (lo := 1) (hi := 6666) x1 h66 (by omega)]
          have f1 : lp_X8_figures_13 FU 0 (nI x) 1 = some z := f1
          rw [f1]
          simp only [Option.bind_some]
          rw [g3, if_neg (show ¬ (1 : Int32) = 0 from by decide), g2, Nat.zero_add]
        · rw [e2]
          obtain ⟨r1, r2, r3⟩ := r
          simp only at q2 q3
          subst q2; subst q3
          rfl
        · rw [figure_eq m4 hj (by omega), q5 j (by omega) hj, Int32.sub_add_cancel]
      · exact absurd q1 g1
    · refine Or.inl ⟨?_, r.2.1, r.2.2, ?_⟩
      · by_cases c6 : sp_X8_in (nI x) 1 6666 = 0
        · exact fz c6
        · have c7 : sp_X8_in (nI x) 1 6666 = 1 := by
            obtain ⟨v, v1, v2, v3⟩ := in_nat (lo := 1) (hi := 6666) c6 (by omega) (by omega)
            rw [v3]
            exact in_yes (lo := 1) (hi := 6666) v1 v2 (by omega)
          obtain ⟨z, f1, f2⟩ := fig_all m x 0 FU mx (fun _ => mx2) (by omega) (by rw [FU_eq]; omega)
          rcases f2 with ⟨g1, _⟩ | ⟨_, g2⟩
          · exact absurd g1 q1
          · unfold sp_X8_figures
            rw [c7]
            have f1 : lp_X8_figures_13 FU 0 (nI x) 1 = some z := f1
            rw [f1]
            simp only [Option.bind_some]
            rw [if_pos g2]
      · rw [e2]
        obtain ⟨r1, r2, r3⟩ := r
        simp only at q2
        subst q2
        rfl
theorem st_order (p1 p2 : Int32) (s : CSt) (t : MSt) (h : REL s t) : ∃ (r : Int32) (s1 : CSt) (t1 : MSt), S7_order p1 p2 s = some (r, s1) ∧ S8_order p1 p2 t = some (r, t1) ∧ REL s1 t1 := by
  obtain ⟨hT, hK, hC, hF, hX⟩ := h
  unfold S7_order S8_order sp_X7_order sp_X8_order
  by_cases c0 : p2 < -1
  · rw [if_pos c0]
    have c1 : ¬ (-1 : Int32) ≤ p2 := fun q => by
      rw [Int32.lt_iff_toInt_lt] at c0
      rw [Int32.le_iff_toInt_le] at q
      omega
    rcases takes_eq (p1 := p1) (tn := s.1 37) (f := s.2.2.1 31) with ⟨e1, _⟩ | ⟨m, K, m1, m4, e1, _⟩
    · rw [e1]
      simp only [Option.bind_some]
      rw [if_pos trivial]
      exact ⟨_, _, _, rfl, rfl, hT, hK, hC.bad rfl rfl rfl rfl rfl rfl, hF, hX⟩
    · rw [e1]
      simp only [Option.bind_some]
      rw [if_neg (nI_ne0 (by omega) (by omega)), if_neg c1]
      exact ⟨_, _, _, rfl, rfl, hT, hK, hC.bad rfl rfl rfl rfl rfl rfl, hF, hX⟩
  · rw [if_neg c0]
    rcases takes_eq (p1 := p1) (tn := s.1 37) (f := s.2.2.1 31) with ⟨e1, a, g, e2⟩ | ⟨m, K, m1, m4, e1, e2, e3⟩
    · rw [e1, e2]
      simp only [Option.bind_some]
      rw [if_pos trivial, if_pos trivial]
      exact ⟨_, _, _, rfl, rfl, hT, hK, hC.bad rfl rfl rfl rfl rfl rfl, hF, hX⟩
    · rw [e1, e2]
      simp only [Option.bind_some]
      have c1 : (-1 : Int32) ≤ p2 := by
        rw [Int32.lt_iff_toInt_lt] at c0
        rw [Int32.le_iff_toInt_le]
        omega
      obtain ⟨y, hy, y1, y2⟩ := hT.year
      have bT : ∀ j : Nat, j < m → bt (ofs (s.1 9) (s.1 4) (s.2.2.1 0) y j) := fun j hj => bt_ofs (by omega) hT.boff hT.bpulls j (by omega)
      have bT' : ∀ j : Nat, bt ((fun j => if j < m then ofs (s.1 9) (s.1 4) (s.2.2.1 0) y j else 0) j) := fun j => by
        show bt (if j < m then ofs (s.1 9) (s.1 4) (s.2.2.1 0) y j else 0)
        by_cases c : j < m
        · rw [if_pos c]; exact bT j c
        · rw [if_neg c]; exact bt_0
      obtain ⟨z5, f5, R5⟩ := plan_eq (fT := s.2.2.1 32) (a0 := s.1 39) (a1 := s.1 40) (b0 := s.2.2.1 35) (b1 := s.2.2.1 36) (b2 := s.2.2.1 37) (K := K) (f := s.2.2.1 33) (se := s.2.2.1 34) (pl := s.2.2.1 30) (bp := s.2.2.1 29) m1 m4 bT hT.hs
      obtain ⟨z24, f24, q24⟩ := zero24 (f := t.2.2 7)
      obtain ⟨z8, f8, R8⟩ := lines_eq (tr := t.2.2 3) (l := z24.2) (best := t.2.2 8) (T := fun j => if j < m then ofs (s.1 9) (s.1 4) (s.2.2.1 0) y j else 0) m1 m4 hy (fun j hj => if_pos hj) bT' hT.hs (hT.ps y2 (fun _ _ => rfl)) e3 (fun i hi => q24 i (by omega))
      rw [y1, f5, if_neg (show ¬ (1 : Int32) = 0 from by decide), if_neg (nI_ne0 (show 0 < m by omega) (by omega)), if_pos c1, f24]
      simp only [Option.bind_some]
      rw [f8]
      simp only [Option.bind_some]
      rcases R5 with ⟨en, eb⟩ | ⟨v, c, en, v30, eb, ep⟩
      · rcases R8 with ⟨_, eb8⟩ | ⟨v', c', en', _⟩
        · rw [eb, eb8, if_neg (show ¬ (0 : Int32) ≤ -1 from by decide), if_pos (show (-1 : Int32) = -1 from rfl)]
          exact ⟨_, _, _, rfl, rfl, hT, hK, hC, hF, hX⟩
        · rw [en] at en'; cases en'
      · rcases R8 with ⟨en', _⟩ | ⟨v', c', en', _, eb8, ep8⟩
        · rw [en] at en'; cases en'
        · rw [en] at en'
          cases en'
          rw [eb, eb8, if_pos (nI_pos' (by omega)), if_neg (show ¬ nI v = -1 from fun q => by
            have := congrArg Int32.toInt q
            rw [nI_toInt (by omega), show ((-1 : Int32)).toInt = -1 from by decide] at this
            omega)]
          by_cases c2 : p2 = -1
          · rw [if_pos c2, if_pos c2]
            exact ⟨_, _, _, rfl, rfl, hT, hK, hC, hF, hX⟩
          · rw [if_neg c2, if_neg c2]
            have c3 : ¬ p2 < 0 := fun q => c2 (Int32.toInt_inj.1 (by
              rw [Int32.lt_iff_toInt_lt, ti_0] at q
              rw [Int32.le_iff_toInt_le] at c1
              rw [show ((-1 : Int32)).toInt = -1 from by decide] at c1 ⊢
              omega))
            obtain ⟨j, hj, rfl⟩ := nI_of c3
            by_cases c4 : nI m ≤ nI j
            · rw [if_pos c4, if_pos c4]
              exact ⟨_, _, _, rfl, rfl, hT, hK, hC, hF, hX⟩
            · have hjm : j < m := by
                rw [nI_leI (by omega) hj] at c4
                omega
              rw [if_neg c4, if_neg c4, at_n (show j < 4 by omega) (by omega), gi_n (show j < 4 by omega) (by omega), nI_clamp hj, ep j hjm, ep8 j hjm]
              exact ⟨_, _, _, rfl, rfl, hT, hK, hC, hF, hX⟩
