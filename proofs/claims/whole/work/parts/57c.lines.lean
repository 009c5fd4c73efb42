/-! pure: the model's lines -/
theorem m1_sub (x : Int32) : x + (-1) = x - 1 := (Int32.sub_eq_add_neg x 1).symm
theorem counts_eq {n c : Nat} {l : Nat → Int32} (h1 : 1 ≤ n) (hn : n ≤ 4) (hc : c < 6 ^ n) (hl : ∀ i : Nat, i < n → l i = nI (dig n c i)) : ∃ r : Int32 × (Nat → Int32), sp_X8_counts (nI n) l = some r ∧ ((c + 1 < 6 ^ n ∧ r.1 = 1 ∧ ∀ i : Nat, i < n → r.2 i = nI (dig n (c + 1) i)) ∨ (c + 1 = 6 ^ n ∧ r.1 = 0)) :=
  lk1 (L := fun fu (s : Int32 × (Nat → Int32)) => lp_X8_counts_4 fu s.1 s.2)
    (fun d s => s.1 = nI d - 1 ∧ d ≤ n ∧ (∃ a : Nat, c + 1 = a * 6 ^ (n - d)) ∧ (∀ i : Nat, i < d → s.2 i = nI (dig n c i)) ∧ ∀ i : Nat, d ≤ i → i < n → s.2 i = 0)
    (fun r => (c + 1 < 6 ^ n ∧ r.1 = 1 ∧ ∀ i : Nat, i < n → r.2 i = nI (dig n (c + 1) i)) ∨ (c + 1 = 6 ^ n ∧ r.1 = 0)) (by
    rintro d fu ⟨x, g⟩ hd ⟨ex, hdn, ⟨a, ha⟩, q1, q2⟩
    simp only at ex q1 q2
    subst ex
    dsimp only
    rw [lp_X8_counts_4]
    cases d with
    | zero =>
      rw [if_pos (show nI 0 - 1 < 0 from by decide)]
      refine Or.inl ⟨_, rfl, Or.inr ⟨?_, rfl⟩⟩
      rw [Nat.sub_zero] at ha
      have hp : 0 < 6 ^ n := Nat.pow_pos (by omega)
      cases a with
      | zero => rw [Nat.zero_mul] at ha; omega
      | succ a => rw [Nat.succ_mul] at ha; omega
    | succ e =>
      have hE : 0 < 6 ^ (n - (e + 1)) := Nat.pow_pos (by omega)
      obtain ⟨a', rfl⟩ : ∃ a', a = a' + 1 := ⟨a - 1, by
        cases a with
        | zero => rw [Nat.zero_mul] at ha; omega
        | succ a => omega⟩
      have hm : (a' + 1) * 6 ^ (n - (e + 1)) = a' * 6 ^ (n - (e + 1)) + 6 ^ (n - (e + 1)) := Nat.succ_mul _ _
      have hdv : c / 6 ^ (n - (e + 1)) = a' := Nat.div_eq_of_lt_le (by omega) (by omega)
      have hdg : dig n c e = a' % 6 := by
        unfold dig
        rw [show n - 1 - e = n - (e + 1) by omega, hdv]
      have hnE : 6 ^ n = 6 ^ (e + 1) * 6 ^ (n - (e + 1)) := by rw [← Nat.pow_add, show e + 1 + (n - (e + 1)) = n by omega]
      have h6 : 6 ^ (e + 1) = 6 ^ e * 6 := Nat.pow_succ 6 e
      rw [nI_pred, if_neg (nI_pos (by omega)), gi_n (by omega) (by omega), nI_clamp (by omega), q1 e (by omega), hdg, nI_1, upd_s]
      by_cases c6 : a' % 6 + 1 < 6
      · rw [if_neg (show ¬ (6 : Int32) ≤ nI _ from nI_ge (b := 6) c6 (by omega))]
        refine Or.inl ⟨_, rfl, Or.inl ⟨?_, rfl, fun i hi => ?_⟩⟩
        · have h2 : c + 1 ≠ 6 ^ n := fun q => by
            rw [ha, hnE] at q
            have := Nat.eq_of_mul_eq_mul_right hE q
            omega
          omega
        · show upd g e (nI (a' % 6 + 1)) i = nI (dig n (c + 1) i)
          unfold dig
          rw [ha]
          by_cases h3 : i = e
          · subst h3
            rw [upd_s, show n - 1 - i = n - (i + 1) by omega, Nat.mul_div_cancel _ hE]
            congr 1
            omega
          · rw [upd_o h3]
            by_cases h4 : i < e
            · rw [q1 i (by omega)]
              unfold dig
              obtain ⟨x, rfl⟩ : ∃ x, e = i + 1 + x := ⟨e - (i + 1), by omega⟩
              rw [show n - 1 - i = (n - (i + 1 + x + 1)) + (x + 1) by omega, Nat.pow_add, ← Nat.div_div_eq_div_mul, ← Nat.div_div_eq_div_mul, hdv, Nat.mul_div_cancel _ hE, Nat.pow_succ, Nat.mul_comm (6 ^ x) 6, ← Nat.div_div_eq_div_mul, ← Nat.div_div_eq_div_mul, show (a' + 1) / 6 = a' / 6 by omega]
            · rw [q2 i (by omega) hi]
              obtain ⟨x, rfl⟩ : ∃ x, i = e + 1 + x := ⟨i - (e + 1), by omega⟩
              have hX : 0 < 6 ^ (n - 1 - (e + 1 + x)) := Nat.pow_pos (by omega)
              rw [show n - (e + 1) = (x + 1) + (n - 1 - (e + 1 + x)) by omega, Nat.pow_add, ← Nat.mul_assoc, Nat.mul_div_cancel _ hX, Nat.pow_succ, ← Nat.mul_assoc, Nat.mul_mod_left]
              rfl
      · have h5 : a' % 6 = 5 := by omega
        rw [if_pos (show (6 : Int32) ≤ nI _ from by rw [h5]; exact Int32.le_refl _), m1_sub]
        refine Or.inr ⟨e, (_, _), rfl, rfl, rfl, by omega, ⟨(a' + 1) / 6, ?_⟩, fun i hi => ?_, fun i hi hin => ?_⟩
        · have h7 : a' + 1 = (a' + 1) / 6 * 6 := by omega
          rw [ha, show n - e = (n - (e + 1)) + 1 by omega, Nat.pow_succ, Nat.mul_comm (6 ^ (n - (e + 1))) 6, ← Nat.mul_assoc, ← h7]
        · exact (upd_o (by omega)).trans ((upd_o (by omega)).trans (q1 i (by omega)))
        · by_cases h3 : i = e
          · subst h3; exact upd_s
          · exact (upd_o h3).trans ((upd_o h3).trans (q2 i (by omega) hin))) n FU (nI n - 1, l) (by rw [FU_eq]; omega) ⟨rfl, Nat.le_refl _, ⟨c + 1, by rw [Nat.sub_self, Nat.pow_zero, Nat.mul_one]⟩, hl, fun i h1 h2 => absurd h1 (by omega)⟩
theorem copy88 {n : Nat} {l f : Nat → Int32} (hn : n ≤ 4) : ∃ r : Int32 × (Nat → Int32), lp_X8_order_88 (nI n) l FU 0 f = some r ∧ ∀ i : Nat, i < n → r.2 i = l i :=
  lk1 (L := fun fu (s : Int32 × (Nat → Int32)) => lp_X8_order_88 (nI n) l fu s.1 s.2)
    (fun d s => ∃ i : Nat, i + d = n ∧ s.1 = nI i ∧ ∀ j : Nat, j < i → s.2 j = l j) (fun r => ∀ i : Nat, i < n → r.2 i = l i) (by
    rintro d fu ⟨x, g⟩ hd ⟨i, hi, ex, hg⟩
    simp only at ex hg
    subst ex
    dsimp only
    rw [lp_X8_order_88]
    cases d with
    | zero =>
      obtain rfl : i = n := by omega
      rw [if_pos (Int32.le_refl _)]
      exact Or.inl ⟨_, rfl, hg⟩
    | succ d =>
      rw [if_neg (nI_ge (by omega) (by omega)), gi_n (by omega) (by omega), nI_clamp (by omega), nI_1]
      refine Or.inr ⟨d, (_, _), rfl, rfl, i + 1, by omega, rfl, fun j hj => ?_⟩
      by_cases e : j = i
      · subst e; exact upd_s
      · exact (upd_o e).trans (hg j (by omega))) n FU (nI 0, f) (by rw [FU_eq]; omega) ⟨0, by omega, rfl, fun j hj => absurd hj (by omega)⟩
theorem zero24 {f : Nat → Int32} : ∃ r : Int32 × (Nat → Int32), lp_X8_order_24 FU 0 f = some r ∧ ∀ i : Nat, i < 4 → r.2 i = 0 :=
  lk1 (L := fun fu (s : Int32 × (Nat → Int32)) => lp_X8_order_24 fu s.1 s.2)
    (fun d s => ∃ i : Nat, i + d = 4 ∧ s.1 = nI i ∧ ∀ j : Nat, j < i → s.2 j = 0) (fun r => ∀ i : Nat, i < 4 → r.2 i = 0) (by
    rintro d fu ⟨x, g⟩ hd ⟨i, hi, ex, hg⟩
    simp only at ex hg
    subst ex
    dsimp only
    rw [lp_X8_order_24]
    cases d with
    | zero =>
      obtain rfl : i = 4 := by omega
      rw [if_pos (show (4 : Int32) ≤ nI 4 from Int32.le_refl _)]
      exact Or.inl ⟨_, rfl, hg⟩
    | succ d =>
      rw [if_neg (show ¬ (4 : Int32) ≤ nI i from nI_ge (b := 4) (by omega) (by omega)), gi_n (by omega) (by omega), nI_clamp (by omega), nI_1]
      refine Or.inr ⟨d, (_, _), rfl, rfl, i + 1, by omega, rfl, fun j hj => ?_⟩
      by_cases e : j = i
      · subst e; exact upd_s
      · exact (upd_o e).trans (hg j (by omega))) 4 FU (nI 0, f) (by rw [FU_eq]; omega) ⟨0, by omega, rfl, fun j hj => absurd hj (by omega)⟩
/-- where the lines' walk stands behind i turns -/
def LW (K T h k t : Nat → Int32) (D : Nat → Nat) (n i : Nat) (w : Nat → Int32) : Prop := ∀ p : Nat, p < 6 → ∃ (z : (Nat → Int32) × (Nat → Int32) × (Nat → Int32)) (m : Nat), TS K T p (so D p n) h k t i = some z ∧ z.1 p = nI m ∧ m ≤ 5 ∧ PL p m z.2.1 z.2.2 w
theorem builds_line {n y : Nat} {off kd p1 : Int32} {pulls K T h k t w tr l : Nat → Int32} {D : Nat → Nat} (hn : n ≤ 4) (hy : y ≤ 9999) (hT : ∀ j : Nat, j < n → T j = ofs off kd pulls y j) (bT : ∀ j : Nat, bt (T j)) (H : HS h k t w) (hP : PS kd off y pulls w) (hF : ∀ j : Nat, j < n → sp_X8_figure p1 (nI n) (nI j) = some (K j + 1)) (hl : ∀ i : Nat, i < n → l i = nI (D i) ∧ D i < 6) : ∃ r : Int32 × (Nat → Int32), sp_X8_buildsAll p1 (nI n) w tr l = some r ∧ ((r.1 = 0 ∧ vd (HB K T h k t n) D n = false) ∨ (r.1 = 1 ∧ vd (HB K T h k t n) D n = true ∧ sp_X8_storeys r.2 = some (nI (tt_ (HB K T h k t n) D n)))) := by
  obtain ⟨g0, e0, g1⟩ := tries_ex w tr
  obtain ⟨r, e1, q⟩ := lk1 (L := fun fu (s : Int32 × Int32 × (Nat → Int32)) => lp_X8_buildsAll_9 p1 (nI n) l fu s.1 s.2.1 s.2.2)
    (fun d s => ∃ i : Nat, i + d = n ∧ s.1 = 1 ∧ s.2.1 = nI i ∧ vd (HB K T h k t n) D i = true ∧ PS kd (ofs off kd pulls y i) (y + i) pulls s.2.2 ∧ LW K T h k t D n i s.2.2)
    (fun r => (r.1 = 0 ∧ vd (HB K T h k t n) D n = false) ∨ (r.1 = 1 ∧ vd (HB K T h k t n) D n = true ∧ LW K T h k t D n n r.2.2)) (by
    rintro d fu ⟨b, x, u⟩ hd ⟨i, hi, eb, ex, hv, hp, hw⟩
    simp only at eb ex hp hw
    subst eb; subst ex
    dsimp only
    rw [lp_X8_buildsAll_9]
    cases d with
    | zero =>
      obtain rfl : i = n := by omega
      rw [if_pos (Int32.le_refl _)]
      exact Or.inl ⟨_, rfl, Or.inr ⟨rfl, hv, hw⟩⟩
    | succ d =>
      obtain ⟨l1, l2⟩ := hl i (by omega)
      obtain ⟨z, m, z1, z2, z3, z4⟩ := hw (D i) l2
      have hH : HB K T h k t n (D i) (so D (D i) i) = m := HB_pre (by omega) z1 z2 z3
      have hvs : vd (HB K T h k t n) D (i + 1) = decide (m < 5) := by
        show (vd (HB K T h k t n) D i && decide (HB K T h k t n (D i) (so D (D i) i) < 5)) = _
        rw [hv, hH, Bool.true_and]
      rw [if_neg (nI_ge (by omega) (by omega)), if_neg (show ¬ (1 : Int32) = 0 from by decide), gi_n (by omega) (by omega), nI_clamp (by omega), l1, n3, gi_n (by omega) (by omega), nI_clamp (by omega), z4.1, nI_1]
      by_cases c5 : m < 5
      · have et : u 1 = T i := by rw [hT i (by omega)]; exact hp.2.1
        obtain ⟨m', k', t', w', q1, q2, q3, q4, q5⟩ := raise_pl (kd := K i) l2 z4 c5 z2 (bT i)
        have hp' : PS kd (ofs off kd pulls y i) (y + i) pulls w' := ⟨(q5 0 (by omega) (by omega)).trans hp.1, (q5 1 (by omega) (by omega)).trans hp.2.1, (q5 2 (by omega) (by omega)).trans hp.2.2.1, fun j hj => (hp.2.2.2 j hj).trans (q5 _ (by omega) (by omega)).symm⟩
        obtain ⟨w'', s1, s2, s3⟩ := hp'.pass (by omega)
        rw [if_neg (show ¬ (5 : Int32) ≤ nI m from nI_ge (b := 5) c5 (by omega))]
        simp only [lt_]
        rw [if_neg (show ¬ (1 : Int32) = 0 from by decide), hF i (by omega)]
        simp only [Option.bind_some, cl_1]
        rw [Int32.add_sub_cancel, et, q3]
        simp only [Option.bind_some]
        rw [s1]
        simp only [Option.bind_some]
        refine Or.inr ⟨d, (_, _, _), rfl, rfl, i + 1, by omega, rfl, rfl, by rw [hvs]; exact decide_eq_true c5, s2, fun p hp6 => ?_⟩
        by_cases e : D i = p
        · subst e
          refine ⟨(upd z.1 (D i) (nI m'), k', t'), m', ?_, upd_s, q1, PL.cong q1 q4 (fun j hj => s3 j (by omega) (by omega))⟩
          show (Option.bind (TS K T (D i) (so D (D i) n) h k t i) fun z => if (so D (D i) n).testBit i = true then sp_X3_raise (nI (D i)) (K i) (T i) z.1 z.2.1 z.2.2 else some z) = _
          rw [z1]
          simp only [Option.bind_some]
          rw [so_bit, if_pos (decide_eq_true ⟨by omega, rfl⟩), q2]
        · obtain ⟨z', v, v1, v2, v3, v4⟩ := hw p hp6
          refine ⟨z', v, ?_, v2, v3, PL.cong v3 v4 (fun j hj => (s3 j (by omega) (by omega)).trans (q5 j (by omega) (by omega)))⟩
          show (Option.bind (TS K T p (so D p n) h k t i) fun z => if (so D p n).testBit i = true then sp_X3_raise (nI p) (K i) (T i) z.1 z.2.1 z.2.2 else some z) = _
          rw [v1]
          simp only [Option.bind_some]
          rw [so_bit, decide_eq_false (fun q => e q.2), if_neg (fun q => Bool.noConfusion q)]
      · rw [if_pos (show (5 : Int32) ≤ nI m from by rw [show m = 5 by omega]; exact Int32.le_refl _)]
        simp only [lt_]
        rw [if_pos trivial]
        simp only [Option.bind_some]
        obtain ⟨f, rfl⟩ : ∃ f, fu = f + 1 := ⟨fu - 1, by omega⟩
        have hvn : vd (HB K T h k t n) D n = false := by
          have := vd_mono (H := HB K T h k t n) (D := D) (a := i + 1) (by rw [hvs]; exact decide_eq_false c5) d
          rwa [show i + 1 + d = n by omega] at this
        refine Or.inl ⟨(0, nI (i + 1), u), ?_, Or.inl ⟨rfl, hvn⟩⟩
        rw [lp_X8_buildsAll_9, if_pos (show (0 : Int32) = 0 from rfl)]
        split <;> rfl) n FU (1, nI 0, g0) (by rw [FU_eq]; omega) ⟨0, by omega, rfl, rfl, rfl, ⟨(g1 0 (by omega)).trans hP.1, (g1 1 (by omega)).trans hP.2.1, (g1 2 (by omega)).trans hP.2.2.1, fun i hi => (hP.2.2.2 i hi).trans (g1 _ (by omega)).symm⟩, fun p hp => by
      obtain ⟨n0, hn0, a1, a2, a3⟩ := H p hp
      exact ⟨(h, k, t), n0, rfl, a1, hn0, PL.cong hn0 ⟨a2, a3⟩ (fun j hj => g1 j (by omega))⟩⟩
  have e1 : lp_X8_buildsAll_9 p1 (nI n) l FU 1 0 g0 = some r := e1
  unfold sp_X8_buildsAll
  rw [e0]
  simp only [Option.bind_some]
  rw [e1]
  simp only [Option.bind_some]
  rcases q with ⟨q1, q2⟩ | ⟨q1, q2, q3⟩
  · rw [gd_t (Or.inl q1)]
    exact ⟨_, rfl, Or.inl ⟨q1, q2⟩⟩
  · rw [gd_t (Or.inr q1)]
    refine ⟨_, rfl, Or.inr ⟨q1, q2, ?_⟩⟩
    refine st8 (g := fun p => HB K T h k t n p (so D p n)) (fun p hp => ?_)
    obtain ⟨z, m, z1, z2, z3, z4⟩ := q3 p hp
    rw [z4.1, HB_pre (Nat.le_refl n) z1 z2 z3]
/-- the model's lines: all ways of n turns -/
theorem lines_eq {n y : Nat} {off kd p1 : Int32} {pulls K T h k t w tr l best : Nat → Int32} (h1 : 1 ≤ n) (hn : n ≤ 4) (hy : y ≤ 9999) (hT : ∀ j : Nat, j < n → T j = ofs off kd pulls y j) (bT : ∀ j : Nat, bt (T j)) (H : HS h k t w) (hP : PS kd off y pulls w) (hF : ∀ j : Nat, j < n → sp_X8_figure p1 (nI n) (nI j) = some (K j + 1)) (hl : ∀ i : Nat, i < n → l i = 0) : ∃ r : Int32 × Int32 × (Nat → Int32) × (Nat → Int32) × (Nat → Int32), lp_X8_order_50 p1 w (nI n) FU (-1) 1 l tr best = some r ∧ RS n (fr (wy (HB K T h k t n) n) 0 (6 ^ n) none) r.1 r.2.2.2.2 := by
  have h46 : 6 ^ n ≤ 1296 := by
    have hc : n = 1 ∨ n = 2 ∨ n = 3 ∨ n = 4 := by omega
    rcases hc with rfl | rfl | rfl | rfl <;> decide
  exact lk1 (L := fun fu (s : Int32 × Int32 × (Nat → Int32) × (Nat → Int32) × (Nat → Int32)) => lp_X8_order_50 p1 w (nI n) fu s.1 s.2.1 s.2.2.1 s.2.2.2.1 s.2.2.2.2)
    (fun d s => (∃ c : Nat, c + d = 6 ^ n ∧ c < 6 ^ n ∧ s.2.1 = 1 ∧ (∀ i : Nat, i < n → s.2.2.1 i = nI (dig n c i)) ∧ RS n (fr (wy (HB K T h k t n) n) 0 c none) s.1 s.2.2.2.2) ∨ (s.2.1 = 0 ∧ RS n (fr (wy (HB K T h k t n) n) 0 (6 ^ n) none) s.1 s.2.2.2.2))
    (fun r => RS n (fr (wy (HB K T h k t n) n) 0 (6 ^ n) none) r.1 r.2.2.2.2) (by
    rintro d fu ⟨b, x, l, u, g⟩ hd R
    dsimp only at R ⊢
    rw [lp_X8_order_50]
    rcases R with ⟨c, hcd, hc, ex, hl, R⟩ | ⟨ex, R⟩
    · subst ex
      obtain ⟨r, e, q⟩ := builds_line (tr := u) (l := l) (D := dig n c) hn hy hT bT H hP hF (fun i hi => ⟨hl i hi, dig_lt _ _ _⟩)
      obtain ⟨v, e2, q2⟩ := counts_eq h1 hn hc hl
      have hst : ∃ z : Int32 × (Nat → Int32), (if r.1 = 0 then some (b, g) else Option.bind (sp_X8_storeys r.2) fun z14 => if z14 ≤ b then some (b, g) else Option.bind (sp_X8_storeys r.2) fun z16 => Option.bind (lp_X8_order_88 (nI n) l FU 0 g) fun z17 => some (z16, z17.2)) = some z ∧ RS n (fr (wy (HB K T h k t n) n) 0 (c + 1) none) z.1 z.2 := by
        have hfr : fr (wy (HB K T h k t n) n) 0 (c + 1) none = wy (HB K T h k t n) n c (fr (wy (HB K T h k t n) n) 0 c none) := by
          show wy (HB K T h k t n) n (0 + c) _ = _
          rw [Nat.zero_add]
        rw [hfr]
        rcases q with ⟨q1, q2⟩ | ⟨q1, q2, q3⟩
        · rw [if_pos q1, wy_no q2]
          exact ⟨_, rfl, R⟩
        · rw [if_neg (by rw [q1]; decide), q3]
          simp only [Option.bind_some]
          obtain ⟨z, f1, f2⟩ := copy88 (l := l) (f := g) hn
          have W := RS_wy (pl := z.2) (fun p x => HB_le _ _ _ _ _ _ _ _) R q2 (fun i hi => (f2 i hi).trans (hl i hi))
          by_cases c1 : nI (tt_ (HB K T h k t n) (dig n c) n) ≤ b
          · rw [if_pos c1]
            exact ⟨_, rfl, W.1 c1⟩
          · rw [if_neg c1, f1]
            exact ⟨_, rfl, W.2 c1⟩
      obtain ⟨z, e3, q3⟩ := hst
      rw [if_neg (show ¬ (1 : Int32) = 0 from by decide), e]
      simp only [Option.bind_some]
      rw [e3]
      simp only [Option.bind_some]
      rw [e2]
      simp only [Option.bind_some]
      refine Or.inr ⟨d - 1, (_, _, _, _, _), by omega, rfl, ?_⟩
      rcases q2 with ⟨q4, q5, q6⟩ | ⟨q4, q5⟩
      · exact Or.inl ⟨c + 1, by omega, q4, q5, q6, q3⟩
      · exact Or.inr ⟨q5, by rw [← q4]; exact q3⟩
    · subst ex
      rw [if_pos (show (0 : Int32) = 0 from rfl)]
      exact Or.inl ⟨_, rfl, R⟩) (6 ^ n) FU (-1, 1, l, tr, best) (by rw [FU_eq]; omega) (Or.inl ⟨0, by omega, Nat.pow_pos (by omega), rfl, fun i hi => by
        show l i = _
        rw [hl i hi]
        unfold dig
        rw [Nat.zero_div]
        rfl, Or.inl ⟨rfl, rfl⟩⟩)
