/-! pure: a storey is built, what does not stand falls -/
/-- m numbers from a on, added -/
def rs (f : Nat → Int32) (a : Nat) : Nat → Int32
  | 0 => 0
  | m + 1 => rs f a m + f (a + m)
theorem rs_cons (f : Nat → Int32) (a : Nat) : ∀ m : Nat, rs f a (m + 1) = rs f (a + 1) m + f a
  | 0 => by show (0 : Int32) + f (a + 0) = 0 + f a; rw [Nat.add_zero]
  | m + 1 => by
    show rs f a (m + 1) + f (a + (m + 1)) = (rs f (a + 1) m + f (a + 1 + m)) + f a
    rw [rs_cons f a m, show a + (m + 1) = a + 1 + m by omega, Int32.add_assoc, Int32.add_comm (f a), ← Int32.add_assoc]
/-- a plot's storeys, n of them, in both pictures -/
def PL (p n : Nat) (k t w : Nat → Int32) : Prop := w (3 + p) = nI n ∧ ∀ i : Nat, i < n → k (p * 5 + i) = w (9 + 10 * p + 2 * i) ∧ t (p * 5 + i) = w (10 + 10 * p + 2 * i) ∧ bt (t (p * 5 + i))
theorem load8 {p n i : Nat} {k t w : Nat → Int32} (hp : p < 6) (hn : n ≤ 5) (H : PL p n k t w) (hi : i < n) : sp_X8_loadOn (nI p) (nI i) w = some (rs (fun j => sp_X8_heavy (k (p * 5 + j))) (i + 1) (n - (i + 1))) := by
  obtain ⟨r, e1, q1⟩ := lk1 (L := fun fu (s : Int32 × Int32) => lp_X8_loadOn_7 (nI p) w fu s.1 s.2)
    (fun d s => ∃ m : Nat, i + 1 + m + d = n ∧ s.2 = nI (i + 1 + m) ∧ s.1 = rs (fun j => sp_X8_heavy (k (p * 5 + j))) (i + 1) m) (fun r => r.1 = rs (fun j => sp_X8_heavy (k (p * 5 + j))) (i + 1) (n - (i + 1))) (by
    rintro d fu ⟨x, y⟩ hd ⟨m, hm, e, ex⟩
    simp only at e ex
    subst e; subst ex
    dsimp only
    rw [lp_X8_loadOn_7, n3, gi_n (by omega) (by omega), nI_clamp (by omega), H.1]
    cases d with
    | zero =>
      rw [if_pos (by rw [show i + 1 + m = n by omega]; exact Int32.le_refl _)]
      exact Or.inl ⟨_, rfl, by rw [show n - (i + 1) = m by omega]⟩
    | succ d =>
      rw [if_neg (nI_ge (by omega) (by omega)), storey_n, gi_n (by omega) (by omega), nI_clamp (by omega), ← (H.2 (i + 1 + m) (by omega)).1, nI_1]
      exact Or.inr ⟨d, (_, _), rfl, rfl, m + 1, by omega, rfl, rfl⟩) (n - (i + 1)) FU (0, nI (i + 1)) (by rw [FU_eq]; omega) ⟨0, by omega, rfl, rfl⟩
  have e1 : lp_X8_loadOn_7 (nI p) w FU 0 (nI (i + 1)) = some r := e1
  unfold sp_X8_loadOn
  rw [nI_1, e1, ← q1]; rfl
theorem sum7 {p n : Nat} {k : Nat → Int32} (hp : p < 6) (hn : n ≤ 5) : ∃ r : Int32 × Int32, lp_X3_standing_5 (nI p) (nI n) k FU 0 0 = some r ∧ r.1 = rs (fun j => sp_X8_heavy (k (p * 5 + j))) 0 n := by
  exact lk1 (L := fun fu (s : Int32 × Int32) => lp_X3_standing_5 (nI p) (nI n) k fu s.1 s.2)
    (fun d s => ∃ m : Nat, m + d = n ∧ s.2 = nI m ∧ s.1 = rs (fun j => sp_X8_heavy (k (p * 5 + j))) 0 m) (fun r => r.1 = rs (fun j => sp_X8_heavy (k (p * 5 + j))) 0 n) (by
    rintro d fu ⟨x, y⟩ hd ⟨m, hm, e, ex⟩
    simp only at e ex
    subst e; subst ex
    dsimp only
    rw [lp_X3_standing_5]
    cases d with
    | zero =>
      obtain rfl : m = n := by omega
      rw [if_pos (Int32.le_refl _)]
      exact Or.inl ⟨_, rfl, rfl⟩
    | succ d =>
      rw [if_neg (nI_ge (by omega) (by omega)), kindAt_n hp (by omega), nI_1]
      refine Or.inr ⟨d, (_, _), rfl, rfl, m + 1, by omega, rfl, ?_⟩
      show rs _ 0 m + sp_X4_heavy (k (p * 5 + m)) = rs _ 0 m + sp_X8_heavy (k (p * 5 + (0 + m)))
      rw [Nat.zero_add, heavy_eq]) n FU (0, nI 0) (by rw [FU_eq]; omega) ⟨0, by omega, rfl, rfl⟩
theorem stand_eq {p n : Nat} {k t w : Nat → Int32} (hp : p < 6) (hn : n ≤ 5) (H : PL p n k t w) : ∃ m : Nat, m ≤ n ∧ sp_X3_standing (nI p) (nI n) k t = some (nI m) ∧ sp_X8_falling (nI p) w = some (nI m) := by
  obtain ⟨r0, f1, f2⟩ := sum7 (k := k) hp hn
  obtain ⟨r, r', e1, e2, m, hm, q1, q2⟩ := lk (L := fun fu (s : Int32 × Int32 × Int32) => lp_X3_standing_36 (nI p) (nI n) k t fu s.1 s.2.1 s.2.2) (M := fun fu (s : Int32 × Int32) => lp_X8_falling_4 (nI p) w fu s.1 s.2)
    (fun d s s' => ∃ i : Nat, i + d = n ∧ s.1 = rs (fun j => sp_X8_heavy (k (p * 5 + j))) i (n - i) ∧ s.2.1 = (if i = 0 then 0 else t (p * 5 + (i - 1))) ∧ s.2.2 = nI i ∧ s'.1 = nI i ∧ s'.2 = 1)
    (fun r r' => ∃ m : Nat, m ≤ n ∧ r = nI m ∧ r'.1 = nI m) (by
    rintro d fu ⟨x, u, y⟩ ⟨y', b⟩ hd ⟨i, hi, ex, eu, ey, ey', eb⟩
    simp only at ex eu ey ey' eb
    subst ex; subst ey; subst ey'; subst eb
    dsimp only
    rw [lp_X3_standing_36, lp_X8_falling_4, n3, gi_n (by omega) (by omega), nI_clamp (by omega), H.1]
    cases d with
    | zero =>
      obtain rfl : i = n := by omega
      rw [if_pos (Int32.le_refl _), if_pos (Int32.le_refl _)]
      exact Or.inl ⟨_, _, rfl, rfl, i, Nat.le_refl _, rfl, rfl⟩
    | succ d =>
      obtain ⟨g1, g2, g3⟩ := H.2 i (by omega)
      have hload := load8 hp hn H (show i < n by omega)
      have hx : rs (fun j => sp_X8_heavy (k (p * 5 + j))) i (n - i) - sp_X4_heavy (k (p * 5 + i)) = rs (fun j => sp_X8_heavy (k (p * 5 + j))) (i + 1) (n - (i + 1)) := by
        rw [show n - i = (n - (i + 1)) + 1 by omega, rs_cons, heavy_eq, Int32.add_sub_cancel]
      have hz7 : (if nI i = 0 then some (0 : Int32) else gi (nI (9 + 10 * p + 2 * i) - 1) 682 (some (w (nI (9 + 10 * p + 2 * i) - 1).toNatClampNeg))) = some u := by
        rw [eu]
        by_cases h0 : i = 0
        · subst h0; rw [if_pos nI_0, if_pos rfl]
        · obtain ⟨i', rfl⟩ : ∃ i', i = i' + 1 := ⟨i - 1, by omega⟩
          rw [if_neg (nI_ne0 (by omega) (by omega)), if_neg h0, show 9 + 10 * p + 2 * (i' + 1) = (10 + 10 * p + 2 * i') + 1 by omega, nI_pred, gi_n (by omega) (by omega), nI_clamp (by omega), Nat.add_sub_cancel, (H.2 i' (by omega)).2.1]
      rw [if_neg (nI_ge (by omega) (by omega)), if_neg (nI_ge (by omega) (by omega)), if_neg (show ¬ (1 : Int32) = 0 from by decide), storey_n, gi_n (by omega) (by omega), nI_1 (9 + 10 * p + 2 * i), gi_n (by omega) (by omega), hz7, kindAt_n hp (by omega), tiltAt_n hp (by omega), hx, hload, nI_clamp (by omega), nI_clamp (by omega), stands_eq g3, nI_1]
      simp only [Option.bind_some, lt_]
      rw [show 9 + 10 * p + 2 * i + 1 = 10 + 10 * p + 2 * i by omega, ← g1, ← g2]
      rcases stands01 (k (p * 5 + i)) (t (p * 5 + i)) u (rs (fun j => sp_X8_heavy (k (p * 5 + j))) (i + 1) (n - (i + 1))) with es | es
      · rw [es, if_pos rfl, if_pos rfl, Int32.add_zero]
        obtain ⟨f, rfl⟩ : ∃ f, fu = f + 1 := ⟨fu - 1, by omega⟩
        refine Or.inl ⟨_, (nI i, 0), rfl, ?_, i, by omega, rfl, rfl⟩
        rw [lp_X8_falling_4, n3, gi_n (by omega) (by omega), nI_clamp (by omega), H.1, if_neg (nI_ge (by omega) (by omega)), if_pos rfl]
      · rw [es, if_neg (show ¬ (1 : Int32) = 0 from by decide), if_neg (show ¬ (1 : Int32) = 0 from by decide), nI_1]
        exact Or.inr ⟨d, (_, _, _), (_, _), rfl, rfl, rfl, i + 1, by omega, rfl, by rw [if_neg (by omega), Nat.add_sub_cancel], rfl, rfl, rfl⟩) n FU (r0.1, 0, nI 0) (nI 0, 1) (by rw [FU_eq]; omega) ⟨0, by omega, by rw [f2]; rfl, rfl, rfl, rfl, rfl⟩
  have e1 : lp_X3_standing_36 (nI p) (nI n) k t FU r0.1 0 0 = some r := e1
  have e2 : lp_X8_falling_4 (nI p) w FU 0 1 = some r' := e2
  refine ⟨m, hm, ?_, ?_⟩
  · unfold sp_X3_standing; rw [f1]; simp only [Option.bind_some]; rw [e1, q1]
  · unfold sp_X8_falling; rw [e2, ← q2]; rfl
theorem zero57 {p m : Nat} {w : Nat → Int32} (hp : p < 6) (hm : m ≤ 5) : ∃ r : Int32 × (Nat → Int32), lp_X8_builds_57 (nI p) FU (nI (9 + 10 * p + 2 * m)) w = some r ∧ ∀ j : Nat, (j < 9 + 10 * p + 2 * m ∨ 19 + 10 * p ≤ j) → r.2 j = w j := by
  exact lk1 (L := fun fu (s : Int32 × (Nat → Int32)) => lp_X8_builds_57 (nI p) fu s.1 s.2)
    (fun d s => ∃ c : Nat, c + d = 19 + 10 * p ∧ 9 + 10 * p + 2 * m ≤ c ∧ s.1 = nI c ∧ ∀ j : Nat, (j < 9 + 10 * p + 2 * m ∨ 19 + 10 * p ≤ j) → s.2 j = w j) (fun r => ∀ j : Nat, (j < 9 + 10 * p + 2 * m ∨ 19 + 10 * p ≤ j) → r.2 j = w j) (by
    rintro d fu ⟨x, u⟩ hd ⟨c, hc, hc2, ex, hu⟩
    simp only at ex hu
    subst ex
    have e9 : (9 : Int32) + nI (10 * p) = nI (9 + 10 * p) := nI_add 9 _
    have e10 : nI (9 + 10 * p) + 10 = nI (9 + 10 * p + 10) := nI_add _ 10
    dsimp only
    rw [lp_X8_builds_57, show (10 : Int32) * nI p = nI (10 * p) from pk_mul 10 p, e9, e10]
    cases d with
    | zero =>
      rw [if_pos (nI_le (by omega) (by omega))]
      exact Or.inl ⟨_, rfl, hu⟩
    | succ d =>
      rw [if_neg (nI_ge (by omega) (by omega)), gi_n (by omega) (by omega), nI_clamp (by omega), nI_1]
      exact Or.inr ⟨d, (_, _), rfl, rfl, c + 1, by omega, by omega, rfl, fun j hj => (upd_o (by omega)).trans (hu j hj)⟩) (19 + 10 * p - (9 + 10 * p + 2 * m)) FU (nI (9 + 10 * p + 2 * m), w) (by rw [FU_eq]; omega) ⟨9 + 10 * p + 2 * m, by omega, Nat.le_refl _, rfl, fun j _ => rfl⟩
theorem fall_eq {p n m0 : Nat} {k t w : Nat → Int32} (hp : p < 6) (hn : n ≤ 5) (hm : m0 ≤ n) (H : PL p n k t w) : ∃ (r : Int32 × Int32 × Int32) (r' : Int32 × (Nat → Int32)) (h : Nat), lp_X3_raise_60 (nI p) k t FU (nI n) (nI m0) 0 = some r ∧ lp_X8_builds_39 (nI p) FU (nI m0) w = some r' ∧ h ≤ n ∧ r.1 = nI h ∧ PL p h k t r'.2 ∧ ∀ j : Nat, j ≠ 3 + p → (j < 9 + 10 * p ∨ 19 + 10 * p ≤ j) → r'.2 j = w j := by
  obtain ⟨r, r', e1, e2, h, q⟩ := lk (L := fun fu (s : Int32 × Int32 × Int32) => lp_X3_raise_60 (nI p) k t fu s.1 s.2.1 s.2.2) (M := fun fu (s : Int32 × (Nat → Int32)) => lp_X8_builds_39 (nI p) fu s.1 s.2)
    (fun d s s' => ∃ H0 m c : Nat, c + d = 5 ∧ H0 ≤ d ∧ H0 ≤ n ∧ m ≤ H0 ∧ s.1 = nI H0 ∧ s.2.1 = nI m ∧ s.2.2 = nI c ∧ s'.1 = nI m ∧ PL p H0 k t s'.2 ∧ ∀ j : Nat, j ≠ 3 + p → (j < 9 + 10 * p ∨ 19 + 10 * p ≤ j) → s'.2 j = w j)
    (fun r r' => ∃ h : Nat, h ≤ n ∧ r.1 = nI h ∧ PL p h k t r'.2 ∧ ∀ j : Nat, j ≠ 3 + p → (j < 9 + 10 * p ∨ 19 + 10 * p ≤ j) → r'.2 j = w j) (by
    rintro d fu ⟨x, y, z⟩ ⟨y', u⟩ hd ⟨H0, m, c, hc, hH, hHn, hmH, ex, ey, ez, ey', hP, ho⟩
    simp only at ex ey ez ey' hP ho
    subst ex; subst ey; subst ez; subst ey'
    dsimp only
    rw [lp_X3_raise_60, lp_X8_builds_39, n3, nI_clamp (by omega), hP.1]
    by_cases hlt : m < H0
    · rw [if_neg (show ¬ (5 : Int32) ≤ nI _ from nI_ge (b := 5) (by omega) (by omega)), if_neg (nI_ge hlt (by omega)), if_neg (nI_ge hlt (by omega)), storey_n]
      obtain ⟨z, z1, z2⟩ := zero57 (p := p) (m := m) (w := u) hp (by omega)
      have hP2 : PL p m k t (upd z.2 (3 + p) (nI m)) := by
        refine ⟨upd_s, fun i hi => ?_⟩
        obtain ⟨g1, g2, g3⟩ := hP.2 i (by omega)
        refine ⟨?_, ?_, g3⟩
        · rw [upd_o (by omega), z2 _ (by omega)]; exact g1
        · rw [upd_o (by omega), z2 _ (by omega)]; exact g2
      obtain ⟨m', hm', s1, s2⟩ := stand_eq hp (by omega) hP2
      rw [s1, z1]
      simp only [Option.bind_some]
      rw [s2, nI_1]
      simp only [Option.bind_some]
      exact Or.inr ⟨d - 1, (_, _, _), (_, _), by omega, rfl, rfl, m, m', c + 1, by omega, by omega, by omega, hm', rfl, rfl, rfl, rfl, hP2, fun j h1 h2 => by show upd z.2 (3 + p) (nI m) j = w j; rw [upd_o h1, z2 j (by omega)]; exact ho j h1 h2⟩
    · obtain rfl : m = H0 := by omega
      rw [if_pos (Int32.le_refl _), if_pos (Int32.le_refl _)]
      have e5 : (if (5 : Int32) ≤ nI c then some (nI m, nI m, nI c) else some (nI m, nI m, nI c)) = some (nI m, nI m, nI c) := by split <;> rfl
      rw [e5]
      exact Or.inl ⟨_, _, rfl, rfl, m, hHn, rfl, hP, ho⟩) 5 FU (nI n, nI m0, nI 0) (nI m0, w) (by rw [FU_eq]; omega) ⟨n, m0, 0, by omega, hn, Nat.le_refl _, hm, rfl, rfl, rfl, rfl, H, fun j _ _ => rfl⟩
  exact ⟨r, r', h, e1, e2, q⟩
/-- building on a plot that has a place -/
theorem raise_eq {p n : Nat} {kd tl : Int32} {h k t w : Nat → Int32} (hp : p < 6) (H : HS h k t w) (hn : n < 5) (hh : h p = nI n) (ht : bt tl) : ∃ (h' k' t' w' : Nat → Int32), sp_X3_raise (nI p) kd tl h k t = some (h', k', t') ∧ sp_X8_builds (nI p) kd tl w = some w' ∧ HS h' k' t' w' ∧ ∀ j : Nat, j ≠ 3 + p → (j < 9 + 10 * p ∨ 19 + 10 * p ≤ j) → w' j = w j := by
  obtain ⟨n', hn', e1, e2, e3⟩ := H p hp
  have : n' = n := (nI_eq (by omega) (by omega)).mp (e1.symm.trans hh)
  subst this
  have x4 : nI p * 5 + nI n' = nI (p * 5 + n') := by rw [show nI p * 5 = nI (p * 5) from pk_mul p 5, nI_add]
  have hW : PL p (n' + 1) (upd k (p * 5 + n') kd) (upd t (p * 5 + n') tl) (upd (upd (upd w (9 + 10 * p + 2 * n') kd) (9 + 10 * p + 2 * n' + 1) tl) (3 + p) (nI (n' + 1))) := by
    refine ⟨upd_s, fun i hi => ?_⟩
    by_cases hin : i = n'
    · subst hin
      refine ⟨?_, ?_, ?_⟩
      · rw [upd_s, upd_o (by omega), upd_o (by omega), upd_s]
      · rw [upd_s, upd_o (by omega), show 10 + 10 * p + 2 * i = 9 + 10 * p + 2 * i + 1 by omega, upd_s]
      · rw [upd_s]; exact ht
    · obtain ⟨g1, g2, g3⟩ := e3 i (by omega)
      refine ⟨?_, ?_, ?_⟩
      · rw [upd_o (by omega), upd_o (by omega), upd_o (by omega), upd_o (by omega)]; exact g1
      · rw [upd_o (by omega), upd_o (by omega), upd_o (by omega), upd_o (by omega)]; exact g2
      · rw [upd_o (by omega)]; exact g3
  obtain ⟨m, hm, s1, s2⟩ := stand_eq hp (by omega) hW
  obtain ⟨r, r', hh', f1, f2, f3, f4, f5, f6⟩ := fall_eq hp (by omega) hm hW
  have ho : ∀ j : Nat, j ≠ 3 + p → (j < 9 + 10 * p ∨ 19 + 10 * p ≤ j) → r'.2 j = w j := fun j h1 h2 => by
    rw [f6 j h1 h2, upd_o h1, upd_o (by omega), upd_o (by omega)]
  refine ⟨upd h p (nI hh'), upd k (p * 5 + n') kd, upd t (p * 5 + n') tl, r'.2, ?_, ?_, fun q hq => ?_, ho⟩
  · unfold sp_X3_raise
    rw [height_n hp, e1, if_pos (show nI n' < 5 from nI_lt (b := 5) hn (by omega)), x4, put_n (by omega) (by omega), put_n (by omega) (by omega), nI_1]
    simp only [lt_]
    rw [s1]
    simp only [Option.bind_some]
    rw [f1]
    simp only [Option.bind_some]
    rw [f4, put_n hp (by omega)]
  · unfold sp_X8_builds
    rw [n3, gi_n (by omega) (by omega), nI_clamp (by omega), e2, storey_n, gi_n (by omega) (by omega), nI_1, gi_n (by omega) (by omega), nI_clamp (by omega), nI_clamp (by omega)]
    have ew : upd (upd w (9 + 10 * p + 2 * n') kd) (9 + 10 * p + 2 * n' + 1) tl (3 + p) = nI n' := by rw [upd_o (by omega), upd_o (by omega), e2]
    rw [ew, nI_1, s2]
    simp only [Option.bind_some]
    rw [f2]; rfl
  · by_cases hqp : q = p
    · subst hqp
      exact ⟨hh', by omega, upd_s, f5.1, f5.2⟩
    · obtain ⟨a, ha, a1, a2, a3⟩ := H q hq
      refine ⟨a, ha, by rw [upd_o hqp]; exact a1, by rw [ho _ (by omega) (by omega)]; exact a2, fun i hi => ?_⟩
      obtain ⟨g1, g2, g3⟩ := a3 i hi
      have hne : q * 5 + i ≠ p * 5 + n' := by omega
      refine ⟨by rw [upd_o hne, ho _ (by omega) (by omega)]; exact g1, by rw [upd_o hne, ho _ (by omega) (by omega)]; exact g2, by rw [upd_o hne]; exact g3⟩
