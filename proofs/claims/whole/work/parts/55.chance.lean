/-! pure: chances -/
def sumf (f : Nat → Nat) : Nat → Nat
  | 0 => 0
  | n + 1 => sumf f n + f n
theorem sumf_cong {f g : Nat → Nat} : ∀ n : Nat, (∀ i : Nat, i < n → f i = g i) → sumf f n = sumf g n
  | 0, _ => rfl
  | n + 1, h => by
    show sumf f n + f n = sumf g n + g n
    rw [sumf_cong n (fun i hi => h i (by omega)), h n (by omega)]
theorem sumf_mul (c : Nat) (f : Nat → Nat) : ∀ n : Nat, sumf (fun i => c * f i) n = c * sumf f n
  | 0 => rfl
  | n + 1 => by
    show sumf (fun i => c * f i) n + c * f n = c * (sumf f n + f n)
    rw [sumf_mul c f n, Nat.mul_add]
theorem sumf_add (f g : Nat → Nat) : ∀ n : Nat, sumf (fun i => f i + g i) n = sumf f n + sumf g n
  | 0 => rfl
  | n + 1 => by
    show sumf (fun i => f i + g i) n + (f n + g n) = (sumf f n + f n) + (sumf g n + g n)
    rw [sumf_add f g n]; omega
theorem sumf_two (f : Nat → Nat) : ∀ n : Nat, sumf f (2 * n) = sumf (fun i => f (2 * i) + f (2 * i + 1)) n
  | 0 => rfl
  | n + 1 => by
    show sumf f (2 * n) + f (2 * n) + f (2 * n + 1) = sumf (fun i => f (2 * i) + f (2 * i + 1)) n + (f (2 * n) + f (2 * n + 1))
    rw [sumf_two f n]; omega
theorem sumf_pt (A W : Nat → Nat) (a m : Nat) : ∀ n : Nat, sumf (fun t => (A t + if t = a then m else 0) * W t) n = sumf (fun t => A t * W t) n + if a < n then m * W a else 0
  | 0 => by rw [if_neg (by omega)]; rfl
  | n + 1 => by
    show sumf (fun t => (A t + if t = a then m else 0) * W t) n + (A n + if n = a then m else 0) * W n = (sumf (fun t => A t * W t) n + A n * W n) + if a < n + 1 then m * W a else 0
    rw [sumf_pt A W a m n]
    by_cases h : n = a
    · subst h
      rw [if_pos rfl, if_neg (by omega), if_pos (by omega), Nat.add_mul]; omega
    · rw [if_neg h, Nat.add_zero]
      by_cases h2 : a < n
      · rw [if_pos h2, if_pos (by omega)]; omega
      · rw [if_neg h2, if_neg (by omega)]; omega
def VV (f0 f1 : Nat → Nat → Nat) (c : Nat) (g : Nat → Nat) : Nat → Nat → Nat → Nat
  | 0, _, j => g j
  | r + 1, k, j => c * VV f0 f1 c g r (k + 1) (f0 k j) + (10 - c) * VV f0 f1 c g r (k + 1) (f1 k j)
def WT (f0 f1 : Nat → Nat → Nat) (c : Nat) (g : Nat → Nat) : Nat → Nat → Nat → Nat → Nat
  | 0, _, j, _ => g j
  | r + 1, k, j, s => if s % 2 = 1 then c * WT f0 f1 c g r (k + 1) (f0 k j) (s / 2) else (10 - c) * WT f0 f1 c g r (k + 1) (f1 k j) (s / 2)
theorem WT_sum (f0 f1 : Nat → Nat → Nat) (c : Nat) (g : Nat → Nat) : ∀ r k j : Nat, sumf (WT f0 f1 c g r k j) (2 ^ r) = VV f0 f1 c g r k j
  | 0, k, j => by show 0 + g j = g j; omega
  | r + 1, k, j => by
    rw [Nat.pow_succ, Nat.mul_comm, sumf_two]
    show sumf _ (2 ^ r) = c * VV f0 f1 c g r (k + 1) (f0 k j) + (10 - c) * VV f0 f1 c g r (k + 1) (f1 k j)
    rw [← WT_sum f0 f1 c g r (k + 1) (f0 k j), ← WT_sum f0 f1 c g r (k + 1) (f1 k j), ← sumf_mul, ← sumf_mul, ← sumf_add]
    refine sumf_cong _ (fun i _ => ?_)
    have e0 : WT f0 f1 c g (r + 1) k j (2 * i) = (10 - c) * WT f0 f1 c g r (k + 1) (f1 k j) i := by
      show (if 2 * i % 2 = 1 then _ else (10 - c) * WT f0 f1 c g r (k + 1) (f1 k j) (2 * i / 2)) = _
      rw [if_neg (by omega), show 2 * i / 2 = i by omega]
    have e1 : WT f0 f1 c g (r + 1) k j (2 * i + 1) = c * WT f0 f1 c g r (k + 1) (f0 k j) i := by
      show (if (2 * i + 1) % 2 = 1 then c * WT f0 f1 c g r (k + 1) (f0 k j) ((2 * i + 1) / 2) else _) = _
      rw [if_pos (by omega), show (2 * i + 1) / 2 = i by omega]
    rw [e0, e1]; omega
theorem VV_le (f0 f1 : Nat → Nat → Nat) {c : Nat} {g : Nat → Nat} (hc : c ≤ 10) (hg : ∀ j : Nat, g j ≤ 1) : ∀ r k j : Nat, VV f0 f1 c g r k j ≤ 10 ^ r
  | 0, k, j => hg j
  | r + 1, k, j => by
    have h0 := VV_le f0 f1 hc hg r (k + 1) (f0 k j)
    have h1 := VV_le f0 f1 hc hg r (k + 1) (f1 k j)
    have a0 := Nat.mul_le_mul_left c h0
    have a1 := Nat.mul_le_mul_left (10 - c) h1
    have e : c * 10 ^ r + (10 - c) * 10 ^ r = 10 ^ (r + 1) := by rw [← Nat.add_mul, show c + (10 - c) = 10 by omega, Nat.pow_succ, Nat.mul_comm]
    show c * VV f0 f1 c g r (k + 1) (f0 k j) + (10 - c) * VV f0 f1 c g r (k + 1) (f1 k j) ≤ 10 ^ (r + 1)
    omega
/-- a year more of the spread -/
theorem spread_eq {kd : Int32} {y c : Nat} {pulls sb sp : Nat → Int32} {D : Nat → Nat} (hy : y < 2 ^ 31) (hc : c ≤ 10) (hb : ∀ i : Nat, i < 6 → bt (pulls i)) (hD : ∀ j : Nat, j < 19 → sp j = nI (D j) ∧ D j < 2 ^ 31) : ∃ (row : Nat → Int32) (D' : Nat → Nat), sp_X7_spreadOverYear (nI y) (nI c) sb sp kd pulls = some row ∧ (∀ t : Nat, t < 19 → row t = nI (D' t)) ∧ ∀ W : Nat → Nat, sumf (fun t => D' t * W t) 19 = sumf (fun j => D j * (c * W (plc (sp_X8_behind kd (nI j + -9) 0 (nI y))) + (10 - c) * W (plc (sp_X6_offBehind (nI y) (nI j + -9) kd pulls)))) 19 := by
  obtain ⟨T0, t0, t1⟩ := empty_eq (n := 19) (by omega) (f := sb)
  obtain ⟨r, e1, D', q1, q2⟩ := lk1 (L := fun fu (s : Int32 × (Nat → Int32)) => lp_X7_spreadOverYear_10 (nI y) (nI c) sp kd pulls fu s.1 s.2)
    (fun d s => ∃ (i : Nat) (A : Nat → Nat), i + d = 19 ∧ s.1 = nI i + -9 ∧ (∀ t : Nat, t < 19 → s.2 t = nI (A t)) ∧ ∀ W : Nat → Nat, sumf (fun t => A t * W t) 19 = sumf (fun j => D j * (c * W (plc (sp_X8_behind kd (nI j + -9) 0 (nI y))) + (10 - c) * W (plc (sp_X6_offBehind (nI y) (nI j + -9) kd pulls)))) i)
    (fun r => ∃ D' : Nat → Nat, (∀ t : Nat, t < 19 → r.2 t = nI (D' t)) ∧ ∀ W : Nat → Nat, sumf (fun t => D' t * W t) 19 = sumf (fun j => D j * (c * W (plc (sp_X8_behind kd (nI j + -9) 0 (nI y))) + (10 - c) * W (plc (sp_X6_offBehind (nI y) (nI j + -9) kd pulls)))) 19) (by
    rintro d fu ⟨x, U⟩ hd ⟨i, A, hi, ex, hA, hW⟩
    simp only at ex hA
    subst ex
    dsimp only
    rw [lp_X7_spreadOverYear_10]
    cases d with
    | zero =>
      obtain rfl : i = 19 := by omega
      rw [if_pos (show (9 : Int32) < nI 19 + -9 from by decide)]
      exact Or.inl ⟨_, rfl, A, hA, hW⟩
    | succ d =>
      obtain ⟨hs, hD2⟩ := hD i (by omega)
      have hb1 : bt (sp_X8_behind kd (nI i + -9) 0 (nI y)) := bt_beh (bt_o i (by omega)) bt_0
      have hb2 : bt (sp_X6_offBehind (nI y) (nI i + -9) kd pulls) := bt_offBehind hy (bt_o i (by omega)) hb
      obtain ⟨p1, p2, _⟩ := plc_of hb1
      obtain ⟨r1, r2, _⟩ := plc_of hb2
      have e9 : nI i + -9 + 9 = nI i := by rw [Int32.add_assoc, show (-9 : Int32) + 9 = 0 from by decide, Int32.add_zero]
      have ec : (10 : Int32) - nI c = nI (10 - c) := pk_sub (a := 10) hc
      rw [if_neg (o9 i (by omega)).1, e9, at_n (by omega) (by omega), hs, beh_eq (yr_n hy), p2, r2, ec, o9s]
      simp only [lt_]
      by_cases c0 : D i = 0
      · rw [if_pos (by rw [c0]; decide)]
        refine Or.inr ⟨d, (_, _), rfl, rfl, i + 1, A, by omega, rfl, hA, fun W => ?_⟩
        rw [hW W]
        simp only [sumf, c0, Nat.zero_mul, Nat.add_zero]
      · rw [if_neg (nI_nle (by omega) hD2)]
        unfold sp_X2_add
        simp only [lt_]
        rw [at_n p1 (by omega), put_n p1 (by omega), at_n r1 (by omega), put_n r1 (by omega)]
        refine Or.inr ⟨d, (_, _), rfl, rfl, i + 1, fun t => (A t + if t = plc (sp_X8_behind kd (nI i + -9) 0 (nI y)) then D i * c else 0) + if t = plc (sp_X6_offBehind (nI y) (nI i + -9) kd pulls) then D i * (10 - c) else 0, by omega, rfl, fun t ht => ?_, fun W => ?_⟩
        · generalize plc (sp_X8_behind kd (nI i + -9) 0 (nI y)) = a at p1
          generalize plc (sp_X6_offBehind (nI y) (nI i + -9) kd pulls) = b at r1
          have m1 : nI (D i) * nI c = nI (D i * c) := pk_mul _ _
          have m2 : nI (D i) * nI (10 - c) = nI (D i * (10 - c)) := pk_mul _ _
          have first : ∀ t : Nat, t < 19 → upd U a (U a + nI (D i) * nI c) t = nI (A t + if t = a then D i * c else 0) := fun t ht => by
            by_cases h : t = a
            · subst h; rw [upd_s, if_pos rfl, hA t ht, m1, nI_add]
            · rw [upd_o h, if_neg h, hA t ht, Nat.add_zero]
          show upd (upd U a (U a + nI (D i) * nI c)) b (upd U a (U a + nI (D i) * nI c) b + nI (D i) * nI (10 - c)) t = _
          by_cases h : t = b
          · subst h; rw [upd_s, first t ht, m2, nI_add]; simp only [if_true]
          · rw [upd_o h, first t ht]; simp only [h, if_false, Nat.add_zero]
        · rw [sumf_pt, sumf_pt, if_pos p1, if_pos r1, hW W]
          simp only [sumf, Nat.mul_add, Nat.mul_assoc, Nat.add_assoc]) 19 FU (-9, T0) (by rw [FU_eq]; omega) ⟨0, fun _ => 0, by omega, show (-9 : Int32) = nI 0 + -9 from by decide, fun t ht => by show T0 t = _; rw [t1 t ht]; rfl, fun W => by
      show sumf (fun t => 0 * W t) 19 = 0
      rw [sumf_mul, Nat.zero_mul]⟩
  have e1 : lp_X7_spreadOverYear_10 (nI y) (nI c) sp kd pulls FU (-9) T0 = some r := e1
  refine ⟨r.2, D', ?_, q1, q2⟩
  unfold sp_X7_spreadOverYear
  rw [t0]
  simp only [Option.bind_some]
  rw [e1]; rfl
theorem sumf_bd {D : Nat → Nat} {B : Nat} : ∀ n : Nat, sumf D n ≤ B → ∀ j : Nat, j < n → D j ≤ B
  | 0, _, j, hj => absurd hj (by omega)
  | n + 1, h, j, hj => by
    have h : sumf D n + D n ≤ B := h
    by_cases e : j = n
    · subst e; omega
    · exact sumf_bd n (by omega) j (by omega)
/-- what stands behind k years of a spread -/
def SP (f0 f1 : Nat → Nat → Nat) (c : Nat) (g : Nat → Nat) (m k j0 : Nat) (row : Nat → Int32) : Prop := ∃ D : Nat → Nat, (∀ t : Nat, t < 19 → row t = nI (D t)) ∧ sumf D 19 = 10 ^ k ∧ sumf (fun j => D j * VV f0 f1 c g (m - k) k j) 19 = VV f0 f1 c g m 0 j0
theorem SP_step {kd : Int32} {y c m k j0 : Nat} {pulls sb row : Nat → Int32} {g : Nat → Nat} {f0 f1 : Nat → Nat → Nat} (hf0 : ∀ k j : Nat, f0 k j = plc (sp_X8_behind kd (nI j + -9) 0 (nI (y + k)))) (hf1 : ∀ k j : Nat, f1 k j = plc (sp_X6_offBehind (nI (y + k)) (nI j + -9) kd pulls)) (hy : y ≤ 9999) (hc : c ≤ 10) (hb : ∀ i : Nat, i < 6 → bt (pulls i)) (hk : k < m) (hm : m ≤ 8) (H : SP f0 f1 c g m k j0 row) : ∃ row' : Nat → Int32, sp_X7_spreadOverYear (nI (y + k)) (nI c) sb row kd pulls = some row' ∧ SP f0 f1 c g m (k + 1) j0 row' := by
  obtain ⟨D, h1, h2, h3⟩ := H
  have hp : 10 ^ k ≤ 10 ^ 8 := Nat.pow_le_pow_right (by omega) (by omega)
  have hbd := sumf_bd (D := D) (B := 10 ^ 8) 19 (by omega)
  obtain ⟨row', D', e, q1, q2⟩ := spread_eq (kd := kd) (y := y + k) (sb := sb) (by omega) hc hb (fun j hj => ⟨h1 j hj, by have := hbd j hj; omega⟩)
  refine ⟨row', e, D', q1, ?_, ?_⟩
  · have := q2 (fun _ => 1)
    rw [sumf_cong 19 (fun t _ => Nat.mul_one (D' t))] at this
    rw [this, sumf_cong (g := fun j => 10 * D j) 19 (fun t _ => by show D t * (c * 1 + (10 - c) * 1) = 10 * D t; rw [Nat.mul_one, Nat.mul_one, show c + (10 - c) = 10 by omega, Nat.mul_comm]), sumf_mul, h2, Nat.pow_succ, Nat.mul_comm]
  · rw [q2 (VV f0 f1 c g (m - (k + 1)) (k + 1)), ← h3]
    refine sumf_cong 19 (fun t _ => ?_)
    obtain ⟨r, hr⟩ : ∃ r, m - k = r + 1 := ⟨m - k - 1, by omega⟩
    rw [hr, show m - (k + 1) = r by omega, ← hf0 k t, ← hf1 k t]
    rfl
theorem SP_init {off : Int32} {c m : Nat} {sp : Nat → Int32} {g : Nat → Nat} {f0 f1 : Nat → Nat → Nat} (ho : bt off) : ∃ z7 : Nat → Int32, sp_X2_empty 19 sp = some z7 ∧ SP f0 f1 c g m 0 (plc off) (sp_X2_put 19 (off + 9) 1 z7) := by
  obtain ⟨T0, t0, t1⟩ := empty_eq (n := 19) (by omega) (f := sp)
  obtain ⟨p1, p2, _⟩ := plc_of ho
  have hs : ∀ W : Nat → Nat, sumf (fun t => (0 + if t = plc off then 1 else 0) * W t) 19 = W (plc off) := fun W => by
    rw [sumf_pt (fun _ => 0) W (plc off) 1 19, if_pos p1, sumf_mul, Nat.zero_mul, Nat.zero_add, Nat.one_mul]
  refine ⟨T0, t0, fun t => 0 + if t = plc off then 1 else 0, fun t ht => ?_, ?_, hs (VV f0 f1 c g m 0)⟩
  · rw [p2, put_n p1 (by omega)]
    by_cases h : t = plc off
    · rw [h, upd_s]; simp only [if_true]; rfl
    · rw [upd_o h, t1 t ht]; simp only [h, if_false]; rfl
  · have := hs (fun _ => 1)
    rw [sumf_cong (g := fun t => 0 + if t = plc off then 1 else 0) 19 (fun t _ => Nat.mul_one _)] at this
    exact this
theorem partC_0 {x : Int32} {row : Nat → Int32} {D g : Nat → Nat} (hg : ∀ j : Nat, j < 19 → g j = if sp_X8_size (nI j + -9) < x then 0 else 1) (hD : ∀ j : Nat, j < 19 → row j = nI (D j)) : ∃ r : Int32 × Int32, lp_X7_chance_0_127 x row FU 0 (-9) = some r ∧ r.1 = nI (sumf (fun j => D j * g j) 19) := by
  exact lk1 (L := fun fu (s : Int32 × Int32) => lp_X7_chance_0_127 x row fu s.1 s.2)
    (fun d s => ∃ i : Nat, i + d = 19 ∧ s.2 = nI i + -9 ∧ s.1 = nI (sumf (fun j => D j * g j) i)) (fun r => r.1 = nI (sumf (fun j => D j * g j) 19)) (by
    rintro d fu ⟨a, y⟩ hd ⟨i, hi, ey, ea⟩
    simp only at ey ea
    subst ey; subst ea
    dsimp only
    rw [lp_X7_chance_0_127]
    cases d with
    | zero =>
      obtain rfl : i = 19 := by omega
      rw [if_pos (show (9 : Int32) < nI 19 + -9 from by decide)]
      exact Or.inl ⟨_, rfl, rfl⟩
    | succ d =>
      have e9 : nI i + -9 + 9 = nI i := by rw [Int32.add_assoc, show (-9 : Int32) + 9 = 0 from by decide, Int32.add_zero]
      rw [if_neg (o9 i (by omega)).1, e9, at_n (by omega) (by omega), hD i (by omega), o9s, j_abs_size]
      simp only [lt_]
      have hgi := hg i (by omega)
      by_cases c0 : sp_X8_size (nI i + -9) < x
      · rw [if_pos c0] at hgi ⊢
        have e : sumf (fun j => D j * g j) (i + 1) = sumf (fun j => D j * g j) i := by simp only [sumf, hgi, Nat.mul_zero, Nat.add_zero]
        exact Or.inr ⟨d, (_, _), rfl, rfl, i + 1, by omega, rfl, by show nI (sumf (fun j => D j * g j) i) = nI (sumf (fun j => D j * g j) (i + 1)); rw [e]⟩
      · rw [if_neg c0] at hgi ⊢
        have e : sumf (fun j => D j * g j) (i + 1) = sumf (fun j => D j * g j) i + D i := by simp only [sumf, hgi, Nat.mul_one]
        exact Or.inr ⟨d, (_, _), rfl, rfl, i + 1, by omega, rfl, by show nI (sumf (fun j => D j * g j) i) + nI (D i) = nI (sumf (fun j => D j * g j) (i + 1)); rw [e, nI_add]⟩) 19 FU (nI 0, -9) (by rw [FU_eq]; omega) ⟨0, by omega, show (-9 : Int32) = nI 0 + -9 from by decide, rfl⟩
theorem partC_1 {x : Int32} {row : Nat → Int32} {D g : Nat → Nat} (hg : ∀ j : Nat, j < 19 → g j = if sp_X8_size (nI j + -9) < x then 0 else 1) (hD : ∀ j : Nat, j < 19 → row j = nI (D j)) : ∃ r : Int32 × Int32, lp_X7_chance_1_127 x row FU 0 (-9) = some r ∧ r.1 = nI (sumf (fun j => D j * g j) 19) := by
  exact lk1 (L := fun fu (s : Int32 × Int32) => lp_X7_chance_1_127 x row fu s.1 s.2)
    (fun d s => ∃ i : Nat, i + d = 19 ∧ s.2 = nI i + -9 ∧ s.1 = nI (sumf (fun j => D j * g j) i)) (fun r => r.1 = nI (sumf (fun j => D j * g j) 19)) (by
    rintro d fu ⟨a, y⟩ hd ⟨i, hi, ey, ea⟩
    simp only at ey ea
    subst ey; subst ea
    dsimp only
    rw [lp_X7_chance_1_127]
    cases d with
    | zero =>
      obtain rfl : i = 19 := by omega
      rw [if_pos (show (9 : Int32) < nI 19 + -9 from by decide)]
      exact Or.inl ⟨_, rfl, rfl⟩
    | succ d =>
      have e9 : nI i + -9 + 9 = nI i := by rw [Int32.add_assoc, show (-9 : Int32) + 9 = 0 from by decide, Int32.add_zero]
      rw [if_neg (o9 i (by omega)).1, e9, at_n (by omega) (by omega), hD i (by omega), o9s, j_abs_size]
      simp only [lt_]
      have hgi := hg i (by omega)
      by_cases c0 : sp_X8_size (nI i + -9) < x
      · rw [if_pos c0] at hgi ⊢
        have e : sumf (fun j => D j * g j) (i + 1) = sumf (fun j => D j * g j) i := by simp only [sumf, hgi, Nat.mul_zero, Nat.add_zero]
        exact Or.inr ⟨d, (_, _), rfl, rfl, i + 1, by omega, rfl, by show nI (sumf (fun j => D j * g j) i) = nI (sumf (fun j => D j * g j) (i + 1)); rw [e]⟩
      · rw [if_neg c0] at hgi ⊢
        have e : sumf (fun j => D j * g j) (i + 1) = sumf (fun j => D j * g j) i + D i := by simp only [sumf, hgi, Nat.mul_one]
        exact Or.inr ⟨d, (_, _), rfl, rfl, i + 1, by omega, rfl, by show nI (sumf (fun j => D j * g j) i) + nI (D i) = nI (sumf (fun j => D j * g j) (i + 1)); rw [e, nI_add]⟩) 19 FU (nI 0, -9) (by rw [FU_eq]; omega) ⟨0, by omega, show (-9 : Int32) = nI 0 + -9 from by decide, rfl⟩
theorem partC_2 {x : Int32} {row : Nat → Int32} {D g : Nat → Nat} (hg : ∀ j : Nat, j < 19 → g j = if sp_X8_size (nI j + -9) < x then 0 else 1) (hD : ∀ j : Nat, j < 19 → row j = nI (D j)) : ∃ r : Int32 × Int32, lp_X7_chance_2_127 x row FU 0 (-9) = some r ∧ r.1 = nI (sumf (fun j => D j * g j) 19) := by
  exact lk1 (L := fun fu (s : Int32 × Int32) => lp_X7_chance_2_127 x row fu s.1 s.2)
    (fun d s => ∃ i : Nat, i + d = 19 ∧ s.2 = nI i + -9 ∧ s.1 = nI (sumf (fun j => D j * g j) i)) (fun r => r.1 = nI (sumf (fun j => D j * g j) 19)) (by
    rintro d fu ⟨a, y⟩ hd ⟨i, hi, ey, ea⟩
    simp only at ey ea
    subst ey; subst ea
    dsimp only
    rw [lp_X7_chance_2_127]
    cases d with
    | zero =>
      obtain rfl : i = 19 := by omega
      rw [if_pos (show (9 : Int32) < nI 19 + -9 from by decide)]
      exact Or.inl ⟨_, rfl, rfl⟩
    | succ d =>
      have e9 : nI i + -9 + 9 = nI i := by rw [Int32.add_assoc, show (-9 : Int32) + 9 = 0 from by decide, Int32.add_zero]
      rw [if_neg (o9 i (by omega)).1, e9, at_n (by omega) (by omega), hD i (by omega), o9s, j_abs_size]
      simp only [lt_]
      have hgi := hg i (by omega)
      by_cases c0 : sp_X8_size (nI i + -9) < x
      · rw [if_pos c0] at hgi ⊢
        have e : sumf (fun j => D j * g j) (i + 1) = sumf (fun j => D j * g j) i := by simp only [sumf, hgi, Nat.mul_zero, Nat.add_zero]
        exact Or.inr ⟨d, (_, _), rfl, rfl, i + 1, by omega, rfl, by show nI (sumf (fun j => D j * g j) i) = nI (sumf (fun j => D j * g j) (i + 1)); rw [e]⟩
      · rw [if_neg c0] at hgi ⊢
        have e : sumf (fun j => D j * g j) (i + 1) = sumf (fun j => D j * g j) i + D i := by simp only [sumf, hgi, Nat.mul_one]
        exact Or.inr ⟨d, (_, _), rfl, rfl, i + 1, by omega, rfl, by show nI (sumf (fun j => D j * g j) i) + nI (D i) = nI (sumf (fun j => D j * g j) (i + 1)); rw [e, nI_add]⟩) 19 FU (nI 0, -9) (by rw [FU_eq]; omega) ⟨0, by omega, show (-9 : Int32) = nI 0 + -9 from by decide, rfl⟩
theorem partC_3 {x : Int32} {row : Nat → Int32} {D g : Nat → Nat} (hg : ∀ j : Nat, j < 19 → g j = if sp_X8_size (nI j + -9) < x then 0 else 1) (hD : ∀ j : Nat, j < 19 → row j = nI (D j)) : ∃ r : Int32 × Int32, lp_X7_chance_3_127 x row FU 0 (-9) = some r ∧ r.1 = nI (sumf (fun j => D j * g j) 19) := by
  exact lk1 (L := fun fu (s : Int32 × Int32) => lp_X7_chance_3_127 x row fu s.1 s.2)
    (fun d s => ∃ i : Nat, i + d = 19 ∧ s.2 = nI i + -9 ∧ s.1 = nI (sumf (fun j => D j * g j) i)) (fun r => r.1 = nI (sumf (fun j => D j * g j) 19)) (by
    rintro d fu ⟨a, y⟩ hd ⟨i, hi, ey, ea⟩
    simp only at ey ea
    subst ey; subst ea
    dsimp only
    rw [lp_X7_chance_3_127]
    cases d with
    | zero =>
      obtain rfl : i = 19 := by omega
      rw [if_pos (show (9 : Int32) < nI 19 + -9 from by decide)]
      exact Or.inl ⟨_, rfl, rfl⟩
    | succ d =>
      have e9 : nI i + -9 + 9 = nI i := by rw [Int32.add_assoc, show (-9 : Int32) + 9 = 0 from by decide, Int32.add_zero]
      rw [if_neg (o9 i (by omega)).1, e9, at_n (by omega) (by omega), hD i (by omega), o9s, j_abs_size]
      simp only [lt_]
      have hgi := hg i (by omega)
      by_cases c0 : sp_X8_size (nI i + -9) < x
      · rw [if_pos c0] at hgi ⊢
        have e : sumf (fun j => D j * g j) (i + 1) = sumf (fun j => D j * g j) i := by simp only [sumf, hgi, Nat.mul_zero, Nat.add_zero]
        exact Or.inr ⟨d, (_, _), rfl, rfl, i + 1, by omega, rfl, by show nI (sumf (fun j => D j * g j) i) = nI (sumf (fun j => D j * g j) (i + 1)); rw [e]⟩
      · rw [if_neg c0] at hgi ⊢
        have e : sumf (fun j => D j * g j) (i + 1) = sumf (fun j => D j * g j) i + D i := by simp only [sumf, hgi, Nat.mul_one]
        exact Or.inr ⟨d, (_, _), rfl, rfl, i + 1, by omega, rfl, by show nI (sumf (fun j => D j * g j) i) + nI (D i) = nI (sumf (fun j => D j * g j) (i + 1)); rw [e, nI_add]⟩) 19 FU (nI 0, -9) (by rw [FU_eq]; omega) ⟨0, by omega, show (-9 : Int32) = nI 0 + -9 from by decide, rfl⟩
theorem partC_4 {x : Int32} {row : Nat → Int32} {D g : Nat → Nat} (hg : ∀ j : Nat, j < 19 → g j = if sp_X8_size (nI j + -9) < x then 0 else 1) (hD : ∀ j : Nat, j < 19 → row j = nI (D j)) : ∃ r : Int32 × Int32, lp_X7_chance_4_127 x row FU 0 (-9) = some r ∧ r.1 = nI (sumf (fun j => D j * g j) 19) := by
  exact lk1 (L := fun fu (s : Int32 × Int32) => lp_X7_chance_4_127 x row fu s.1 s.2)
    (fun d s => ∃ i : Nat, i + d = 19 ∧ s.2 = nI i + -9 ∧ s.1 = nI (sumf (fun j => D j * g j) i)) (fun r => r.1 = nI (sumf (fun j => D j * g j) 19)) (by
    rintro d fu ⟨a, y⟩ hd ⟨i, hi, ey, ea⟩
    simp only at ey ea
    subst ey; subst ea
    dsimp only
    rw [lp_X7_chance_4_127]
    cases d with
    | zero =>
      obtain rfl : i = 19 := by omega
      rw [if_pos (show (9 : Int32) < nI 19 + -9 from by decide)]
      exact Or.inl ⟨_, rfl, rfl⟩
    | succ d =>
      have e9 : nI i + -9 + 9 = nI i := by rw [Int32.add_assoc, show (-9 : Int32) + 9 = 0 from by decide, Int32.add_zero]
      rw [if_neg (o9 i (by omega)).1, e9, at_n (by omega) (by omega), hD i (by omega), o9s, j_abs_size]
      simp only [lt_]
      have hgi := hg i (by omega)
      by_cases c0 : sp_X8_size (nI i + -9) < x
      · rw [if_pos c0] at hgi ⊢
        have e : sumf (fun j => D j * g j) (i + 1) = sumf (fun j => D j * g j) i := by simp only [sumf, hgi, Nat.mul_zero, Nat.add_zero]
        exact Or.inr ⟨d, (_, _), rfl, rfl, i + 1, by omega, rfl, by show nI (sumf (fun j => D j * g j) i) = nI (sumf (fun j => D j * g j) (i + 1)); rw [e]⟩
      · rw [if_neg c0] at hgi ⊢
        have e : sumf (fun j => D j * g j) (i + 1) = sumf (fun j => D j * g j) i + D i := by simp only [sumf, hgi, Nat.mul_one]
        exact Or.inr ⟨d, (_, _), rfl, rfl, i + 1, by omega, rfl, by show nI (sumf (fun j => D j * g j) i) + nI (D i) = nI (sumf (fun j => D j * g j) (i + 1)); rw [e, nI_add]⟩) 19 FU (nI 0, -9) (by rw [FU_eq]; omega) ⟨0, by omega, show (-9 : Int32) = nI 0 + -9 from by decide, rfl⟩
theorem partC_5 {x : Int32} {row : Nat → Int32} {D g : Nat → Nat} (hg : ∀ j : Nat, j < 19 → g j = if sp_X8_size (nI j + -9) < x then 0 else 1) (hD : ∀ j : Nat, j < 19 → row j = nI (D j)) : ∃ r : Int32 × Int32, lp_X7_chance_5_127 x row FU 0 (-9) = some r ∧ r.1 = nI (sumf (fun j => D j * g j) 19) := by
  exact lk1 (L := fun fu (s : Int32 × Int32) => lp_X7_chance_5_127 x row fu s.1 s.2)
    (fun d s => ∃ i : Nat, i + d = 19 ∧ s.2 = nI i + -9 ∧ s.1 = nI (sumf (fun j => D j * g j) i)) (fun r => r.1 = nI (sumf (fun j => D j * g j) 19)) (by
    rintro d fu ⟨a, y⟩ hd ⟨i, hi, ey, ea⟩
    simp only at ey ea
    subst ey; subst ea
    dsimp only
    rw [lp_X7_chance_5_127]
    cases d with
    | zero =>
      obtain rfl : i = 19 := by omega
      rw [if_pos (show (9 : Int32) < nI 19 + -9 from by decide)]
      exact Or.inl ⟨_, rfl, rfl⟩
    | succ d =>
      have e9 : nI i + -9 + 9 = nI i := by rw [Int32.add_assoc, show (-9 : Int32) + 9 = 0 from by decide, Int32.add_zero]
      rw [if_neg (o9 i (by omega)).1, e9, at_n (by omega) (by omega), hD i (by omega), o9s, j_abs_size]
      simp only [lt_]
      have hgi := hg i (by omega)
      by_cases c0 : sp_X8_size (nI i + -9) < x
      · rw [if_pos c0] at hgi ⊢
        have e : sumf (fun j => D j * g j) (i + 1) = sumf (fun j => D j * g j) i := by simp only [sumf, hgi, Nat.mul_zero, Nat.add_zero]
        exact Or.inr ⟨d, (_, _), rfl, rfl, i + 1, by omega, rfl, by show nI (sumf (fun j => D j * g j) i) = nI (sumf (fun j => D j * g j) (i + 1)); rw [e]⟩
      · rw [if_neg c0] at hgi ⊢
        have e : sumf (fun j => D j * g j) (i + 1) = sumf (fun j => D j * g j) i + D i := by simp only [sumf, hgi, Nat.mul_one]
        exact Or.inr ⟨d, (_, _), rfl, rfl, i + 1, by omega, rfl, by show nI (sumf (fun j => D j * g j) i) + nI (D i) = nI (sumf (fun j => D j * g j) (i + 1)); rw [e, nI_add]⟩) 19 FU (nI 0, -9) (by rw [FU_eq]; omega) ⟨0, by omega, show (-9 : Int32) = nI 0 + -9 from by decide, rfl⟩
theorem partC_6 {x : Int32} {row : Nat → Int32} {D g : Nat → Nat} (hg : ∀ j : Nat, j < 19 → g j = if sp_X8_size (nI j + -9) < x then 0 else 1) (hD : ∀ j : Nat, j < 19 → row j = nI (D j)) : ∃ r : Int32 × Int32, lp_X7_chance_6_127 x row FU 0 (-9) = some r ∧ r.1 = nI (sumf (fun j => D j * g j) 19) := by
  exact lk1 (L := fun fu (s : Int32 × Int32) => lp_X7_chance_6_127 x row fu s.1 s.2)
    (fun d s => ∃ i : Nat, i + d = 19 ∧ s.2 = nI i + -9 ∧ s.1 = nI (sumf (fun j => D j * g j) i)) (fun r => r.1 = nI (sumf (fun j => D j * g j) 19)) (by
    rintro d fu ⟨a, y⟩ hd ⟨i, hi, ey, ea⟩
    simp only at ey ea
    subst ey; subst ea
    dsimp only
    rw [lp_X7_chance_6_127]
    cases d with
    | zero =>
      obtain rfl : i = 19 := by omega
      rw [if_pos (show (9 : Int32) < nI 19 + -9 from by decide)]
      exact Or.inl ⟨_, rfl, rfl⟩
    | succ d =>
      have e9 : nI i + -9 + 9 = nI i := by rw [Int32.add_assoc, show (-9 : Int32) + 9 = 0 from by decide, Int32.add_zero]
      rw [if_neg (o9 i (by omega)).1, e9, at_n (by omega) (by omega), hD i (by omega), o9s, j_abs_size]
      simp only [lt_]
      have hgi := hg i (by omega)
      by_cases c0 : sp_X8_size (nI i + -9) < x
      · rw [if_pos c0] at hgi ⊢
        have e : sumf (fun j => D j * g j) (i + 1) = sumf (fun j => D j * g j) i := by simp only [sumf, hgi, Nat.mul_zero, Nat.add_zero]
        exact Or.inr ⟨d, (_, _), rfl, rfl, i + 1, by omega, rfl, by show nI (sumf (fun j => D j * g j) i) = nI (sumf (fun j => D j * g j) (i + 1)); rw [e]⟩
      · rw [if_neg c0] at hgi ⊢
        have e : sumf (fun j => D j * g j) (i + 1) = sumf (fun j => D j * g j) i + D i := by simp only [sumf, hgi, Nat.mul_one]
        exact Or.inr ⟨d, (_, _), rfl, rfl, i + 1, by omega, rfl, by show nI (sumf (fun j => D j * g j) i) + nI (D i) = nI (sumf (fun j => D j * g j) (i + 1)); rw [e, nI_add]⟩) 19 FU (nI 0, -9) (by rw [FU_eq]; omega) ⟨0, by omega, show (-9 : Int32) = nI 0 + -9 from by decide, rfl⟩
theorem partC_7 {x : Int32} {row : Nat → Int32} {D g : Nat → Nat} (hg : ∀ j : Nat, j < 19 → g j = if sp_X8_size (nI j + -9) < x then 0 else 1) (hD : ∀ j : Nat, j < 19 → row j = nI (D j)) : ∃ r : Int32 × Int32, lp_X7_chance_7_127 x row FU 0 (-9) = some r ∧ r.1 = nI (sumf (fun j => D j * g j) 19) := by
  exact lk1 (L := fun fu (s : Int32 × Int32) => lp_X7_chance_7_127 x row fu s.1 s.2)
    (fun d s => ∃ i : Nat, i + d = 19 ∧ s.2 = nI i + -9 ∧ s.1 = nI (sumf (fun j => D j * g j) i)) (fun r => r.1 = nI (sumf (fun j => D j * g j) 19)) (by
    rintro d fu ⟨a, y⟩ hd ⟨i, hi, ey, ea⟩
    simp only at ey ea
    subst ey; subst ea
    dsimp only
    rw [lp_X7_chance_7_127]
    cases d with
    | zero =>
      obtain rfl : i = 19 := by omega
      rw [if_pos (show (9 : Int32) < nI 19 + -9 from by decide)]
      exact Or.inl ⟨_, rfl, rfl⟩
    | succ d =>
      have e9 : nI i + -9 + 9 = nI i := by rw [Int32.add_assoc, show (-9 : Int32) + 9 = 0 from by decide, Int32.add_zero]
      rw [if_neg (o9 i (by omega)).1, e9, at_n (by omega) (by omega), hD i (by omega), o9s, j_abs_size]
      simp only [lt_]
      have hgi := hg i (by omega)
      by_cases c0 : sp_X8_size (nI i + -9) < x
      · rw [if_pos c0] at hgi ⊢
        have e : sumf (fun j => D j * g j) (i + 1) = sumf (fun j => D j * g j) i := by simp only [sumf, hgi, Nat.mul_zero, Nat.add_zero]
        exact Or.inr ⟨d, (_, _), rfl, rfl, i + 1, by omega, rfl, by show nI (sumf (fun j => D j * g j) i) = nI (sumf (fun j => D j * g j) (i + 1)); rw [e]⟩
      · rw [if_neg c0] at hgi ⊢
        have e : sumf (fun j => D j * g j) (i + 1) = sumf (fun j => D j * g j) i + D i := by simp only [sumf, hgi, Nat.mul_one]
        exact Or.inr ⟨d, (_, _), rfl, rfl, i + 1, by omega, rfl, by show nI (sumf (fun j => D j * g j) i) + nI (D i) = nI (sumf (fun j => D j * g j) (i + 1)); rw [e, nI_add]⟩) 19 FU (nI 0, -9) (by rw [FU_eq]; omega) ⟨0, by omega, show (-9 : Int32) = nI 0 + -9 from by decide, rfl⟩
theorem partC_8 {x : Int32} {row : Nat → Int32} {D g : Nat → Nat} (hg : ∀ j : Nat, j < 19 → g j = if sp_X8_size (nI j + -9) < x then 0 else 1) (hD : ∀ j : Nat, j < 19 → row j = nI (D j)) : ∃ r : Int32 × Int32, lp_X7_chance_8_127 x row FU 0 (-9) = some r ∧ r.1 = nI (sumf (fun j => D j * g j) 19) := by
  exact lk1 (L := fun fu (s : Int32 × Int32) => lp_X7_chance_8_127 x row fu s.1 s.2)
    (fun d s => ∃ i : Nat, i + d = 19 ∧ s.2 = nI i + -9 ∧ s.1 = nI (sumf (fun j => D j * g j) i)) (fun r => r.1 = nI (sumf (fun j => D j * g j) 19)) (by
    rintro d fu ⟨a, y⟩ hd ⟨i, hi, ey, ea⟩
    simp only at ey ea
    subst ey; subst ea
    dsimp only
    rw [lp_X7_chance_8_127]
    cases d with
    | zero =>
      obtain rfl : i = 19 := by omega
      rw [if_pos (show (9 : Int32) < nI 19 + -9 from by decide)]
      exact Or.inl ⟨_, rfl, rfl⟩
    | succ d =>
      have e9 : nI i + -9 + 9 = nI i := by rw [Int32.add_assoc, show (-9 : Int32) + 9 = 0 from by decide, Int32.add_zero]
      rw [if_neg (o9 i (by omega)).1, e9, at_n (by omega) (by omega), hD i (by omega), o9s, j_abs_size]
      simp only [lt_]
      have hgi := hg i (by omega)
      by_cases c0 : sp_X8_size (nI i + -9) < x
      · rw [if_pos c0] at hgi ⊢
        have e : sumf (fun j => D j * g j) (i + 1) = sumf (fun j => D j * g j) i := by simp only [sumf, hgi, Nat.mul_zero, Nat.add_zero]
        exact Or.inr ⟨d, (_, _), rfl, rfl, i + 1, by omega, rfl, by show nI (sumf (fun j => D j * g j) i) = nI (sumf (fun j => D j * g j) (i + 1)); rw [e]⟩
      · rw [if_neg c0] at hgi ⊢
        have e : sumf (fun j => D j * g j) (i + 1) = sumf (fun j => D j * g j) i + D i := by simp only [sumf, hgi, Nat.mul_one]
        exact Or.inr ⟨d, (_, _), rfl, rfl, i + 1, by omega, rfl, by show nI (sumf (fun j => D j * g j) i) + nI (D i) = nI (sumf (fun j => D j * g j) (i + 1)); rw [e, nI_add]⟩) 19 FU (nI 0, -9) (by rw [FU_eq]; omega) ⟨0, by omega, show (-9 : Int32) = nI 0 + -9 from by decide, rfl⟩
/-- the greatest number that divides both, in turns -/
theorem lN_rem {a b : Nat} (ha : a < 2 ^ 31) (hb : b < 2 ^ 31) : lN a - lN a / lN b * lN b = lN (a % b) := by
  have e : lN a / lN b = lN (a / b) := (Int64.ofNat_div (by omega) (by omega)).symm
  have h := Nat.div_add_mod a b
  rw [e, lN_mul, lN_sub (Nat.div_mul_le_self a b)]
  congr 1
  rw [Nat.mul_comm] at h
  omega
theorem half_mod {a b : Nat} (h : b < a) (hb : 0 < b) : 2 * (a % b) < a := by
  have h1 := Nat.mod_lt a hb
  have h2 := Nat.div_add_mod a b
  have h3 : 1 ≤ a / b := Nat.div_pos (by omega) hb
  have h4 : b * 1 ≤ b * (a / b) := Nat.mul_le_mul_left b h3
  omega
theorem gcd_eq {a0 b0 : Nat} (ha : a0 < 2 ^ 27) (hb : b0 < 2 ^ 27) (hpos : 0 < b0) : ∃ (r : Int32 × Int32 × Int32) (r' : Int64 × Int64) (q : Nat), lp_X7_commonDivisor_7 FU (nI a0) (nI b0) 0 = some r ∧ lp_X8_chance_209 FU (lN a0) (lN b0) = some r' ∧ 0 < q ∧ q < 2 ^ 27 ∧ r.1 = nI q ∧ r'.1 = lN q := by
  obtain ⟨r, r', e1, e2, q, h⟩ := lk (L := fun fu (s : Int32 × Int32 × Int32) => lp_X7_commonDivisor_7 fu s.1 s.2.1 s.2.2) (M := fun fu (s : Int64 × Int64) => lp_X8_chance_209 fu s.1 s.2)
    (fun d s t => ∃ a b i j : Nat, i + d = 100 ∧ a < 2 ^ 27 ∧ b < 2 ^ 27 ∧ 0 < a + b ∧ s.1 = nI a ∧ s.2.1 = nI b ∧ s.2.2 = nI i ∧ t.1 = lN a ∧ t.2 = lN b ∧ ((b < 2 ^ j ∧ 2 * j ≤ d) ∨ (b < a ∧ a < 2 ^ j ∧ 2 * j ≤ d + 1)))
    (fun r r' => ∃ q : Nat, 0 < q ∧ q < 2 ^ 27 ∧ r.1 = nI q ∧ r'.1 = lN q) (by
    rintro d fu ⟨x, y, z⟩ ⟨x', y'⟩ hd ⟨a, b, i, j, hi, ha, hb, hp, ex, ey, ez, ex', ey', hj⟩
    simp only at ex ey ez ex' ey'
    subst ex; subst ey; subst ez; subst ex'; subst ey'
    dsimp only
    rw [lp_X7_commonDivisor_7, lp_X8_chance_209]
    by_cases hb0 : b = 0
    · subst hb0
      have e5 : (if (100 : Int32) ≤ nI i then some (nI a, nI 0, nI i) else if nI 0 = 0 then some (nI a, nI 0, nI i) else lp_X7_commonDivisor_7 fu (nI 0) (nI a - nI a / nI 0 * nI 0) (nI i + 1)) = some (nI a, nI 0, nI i) := by
        split
        · rfl
        · rw [if_pos nI_0]
      rw [e5, if_pos (show lg_cmp (lN 0) 0 = 0 from (lg_cmp_eq _ _).mpr rfl)]
      exact Or.inl ⟨_, _, rfl, rfl, a, by omega, ha, rfl, rfl⟩
    · have hd0 : 0 < d := by
        rcases hj with ⟨h1, h2⟩ | ⟨h1, h2, h3⟩
        · by_cases h0 : j = 0
          · subst h0; simp at h1; omega
          · omega
        · by_cases h0 : j = 0
          · subst h0; simp at h2; omega
          · omega
      have hlb : ¬ lN b = 0 := fun q => hb0 ((lN_eq (a := b) (b := 0) (by omega) (by omega)).mp q)
      rw [if_neg (show ¬ (100 : Int32) ≤ nI _ from nI_ge (b := 100) (by omega) (by omega)), if_neg (nI_ne0 (by omega) (by omega)), if_neg (fun q => hlb ((lg_cmp_eq _ _).mp q)), gd_t hlb, pk_rem (by omega) (by omega) (by omega), lN_rem (by omega) (by omega), nI_1]
      have hm := Nat.mod_lt a (show 0 < b by omega)
      refine Or.inr ⟨d - 1, (_, _, _), (_, _), by omega, rfl, rfl, b, a % b, i + 1, ?_⟩
      rcases hj with ⟨h1, h2⟩ | ⟨h1, h2, h3⟩
      · exact ⟨j, by omega, hb, by omega, by omega, rfl, rfl, rfl, rfl, rfl, Or.inr ⟨hm, h1, by omega⟩⟩
      · have hh := half_mod h1 (by omega)
        by_cases h0 : j = 0
        · subst h0; simp at h2; omega
        · obtain ⟨j', rfl⟩ : ∃ j', j = j' + 1 := ⟨j - 1, by omega⟩
          rw [Nat.pow_succ] at h2
          exact ⟨j', by omega, hb, by omega, by omega, rfl, rfl, rfl, rfl, rfl, Or.inl ⟨by omega, by omega⟩⟩) 100 FU (nI a0, nI b0, nI 0) (lN a0, lN b0) (by rw [FU_eq]; omega) ⟨a0, b0, 0, 27, by omega, ha, hb, by omega, rfl, rfl, rfl, rfl, rfl, Or.inl ⟨hb, by omega⟩⟩
  exact ⟨r, r', q, e1, e2, h⟩
theorem frac_eq {a0 b0 : Nat} {ab bl : Int64} (ha : a0 < 2 ^ 27) (hb : b0 < 2 ^ 27) (hpos : 0 < b0) : ∃ (q : Nat) (r' : Int64 × Int64), sp_X7_setFraction (nI a0) (nI b0) ab bl = some (lN (a0 / q), lN (b0 / q)) ∧ lp_X8_chance_209 FU (lN a0) (lN b0) = some r' ∧ ¬ r'.1 = 0 ∧ lN a0 / r'.1 = lN (a0 / q) ∧ lN b0 / r'.1 = lN (b0 / q) := by
  obtain ⟨r, r', q, e1, e2, h1, h2, h3, h4⟩ := gcd_eq ha hb hpos
  have hq0 : ¬ nI q = 0 := nI_ne0 h1 (by omega)
  have ea := Nat.div_le_self a0 q
  have eb := Nat.div_le_self b0 q
  refine ⟨q, r', ?_, e2, ?_, ?_, ?_⟩
  · unfold sp_X7_setFraction sp_X7_commonDivisor
    rw [e1]
    simp only [Option.bind_some]
    rw [h3, if_neg (nI_nle h1 (by omega)), gd_t hq0, gd_t hq0, pk_div (by omega) h1 (by omega), pk_div (by omega) h1 (by omega), nI_l (by omega), nI_l (by omega)]
  · rw [h4]; exact fun z => absurd ((lN_eq (a := q) (b := 0) (by omega) (by omega)).mp z) (by omega)
  · rw [h4]; exact (Int64.ofNat_div (by omega) (by omega)).symm
  · rw [h4]; exact (Int64.ofNat_div (by omega) (by omega)).symm
theorem bit8 : ∀ s : Nat, s < 256 → ∀ k : Nat, k < 8 → sp_X8_has (nI s) (nI k) = nI (s / 2 ^ k % 2) := by decide +kernel
/-- the model's way by bits -/
theorem way_eq {kd x : Int32} {y c m j0 s : Nat} {pulls w : Nat → Int32} {g : Nat → Nat} {f0 f1 : Nat → Nat → Nat} (hf0 : ∀ k j : Nat, f0 k j = plc (sp_X8_behind kd (nI j + -9) 0 (nI (y + k)))) (hf1 : ∀ k j : Nat, f1 k j = plc (sp_X6_offBehind (nI (y + k)) (nI j + -9) kd pulls)) (hy : y ≤ 9999) (hc : c ≤ 10) (hb : ∀ i : Nat, i < 6 → bt (pulls i)) (hm : m ≤ 8) (hs : s < 256) (hj0 : j0 < 19) (hp : ∀ i : Nat, i < 6 → pulls i = w (69 + i)) (h0 : w 0 = kd) (h2 : w 2 = nI y) : ∃ (r : Int64 × Int32 × Int32) (P j : Nat), lp_X8_chance_89 (nI m) (nI c) w (nI s) FU 1 (nI j0 + -9) 0 = some r ∧ j < 19 ∧ r.1 = lN P ∧ r.2.1 = nI j + -9 ∧ P * g j = WT f0 f1 c g m 0 j0 s := by
  obtain ⟨r, e, P, j, q⟩ := lk1 (L := fun fu (t : Int64 × Int32 × Int32) => lp_X8_chance_89 (nI m) (nI c) w (nI s) fu t.1 t.2.1 t.2.2)
    (fun d t => ∃ k P j : Nat, k + d = m ∧ j < 19 ∧ t.1 = lN P ∧ t.2.1 = nI j + -9 ∧ t.2.2 = nI k ∧ P * WT f0 f1 c g (m - k) k j (s / 2 ^ k) = WT f0 f1 c g m 0 j0 s)
    (fun r => ∃ P j : Nat, j < 19 ∧ r.1 = lN P ∧ r.2.1 = nI j + -9 ∧ P * g j = WT f0 f1 c g m 0 j0 s) (by
    rintro d fu ⟨a, o, z⟩ hd ⟨k, P, j, hk, hj, ea, eo, ez, hW⟩
    simp only at ea eo ez
    subst ea; subst eo; subst ez
    dsimp only
    rw [lp_X8_chance_89]
    simp only [cl_0, cl_2, h0, h2, nI_add]
    cases d with
    | zero =>
      obtain rfl : k = m := by omega
      rw [if_pos (Int32.le_refl _)]
      refine Or.inl ⟨_, rfl, P, j, hj, rfl, rfl, ?_⟩
      rw [show k - k = 0 by omega] at hW
      exact hW
    | succ d =>
      have ec : (10 : Int32) - nI c = nI (10 - c) := pk_sub (a := 10) hc
      obtain ⟨r, hr⟩ : ∃ r, m - k = r + 1 := ⟨m - k - 1, by omega⟩
      have hs2 : s / 2 ^ (k + 1) = s / 2 ^ k / 2 := by rw [Nat.pow_succ, Nat.div_div_eq_div_mul]
      rw [if_neg (nI_ge (by omega) (by omega)), bit8 s hs k (by omega), ec, pull_eq (by omega) hp, nI_l (by omega), nI_l (by omega)]
      rw [hr] at hW
      have hbit : s / 2 ^ k % 2 = 0 ∨ s / 2 ^ k % 2 = 1 := by omega
      rcases hbit with hbit | hbit
      · have eW : WT f0 f1 c g (r + 1) k j (s / 2 ^ k) = (10 - c) * WT f0 f1 c g r (k + 1) (f1 k j) (s / 2 ^ k / 2) := by
          show (if s / 2 ^ k % 2 = 1 then _ else (10 - c) * WT f0 f1 c g r (k + 1) (f1 k j) (s / 2 ^ k / 2)) = _
          rw [if_neg (by omega)]
        have hb2 : bt (sp_X6_offBehind (nI (y + k)) (nI j + -9) kd pulls) := bt_offBehind (by omega) (bt_o j hj) hb
        obtain ⟨r1, _, r3⟩ := plc_of hb2
        have eb : sp_X8_behind kd (nI j + -9) (sp_X6_pullOf (nI (y + k)) pulls) (nI (y + k)) = sp_X6_offBehind (nI (y + k)) (nI j + -9) kd pulls := (beh_eq (yr_n (by omega))).symm
        rw [hbit]
        simp only [show nI 0 = 0 from rfl, if_true, Option.bind_some, lt_, lN_mul, nI_1, eb]
        refine Or.inr ⟨d, (_, _, _), rfl, rfl, k + 1, P * (10 - c), f1 k j, by omega, by rw [hf1]; exact r1, rfl, by rw [hf1]; exact r3, rfl, ?_⟩
        rw [show m - (k + 1) = r by omega, hs2, ← hW, eW, Nat.mul_assoc]
      · have eW : WT f0 f1 c g (r + 1) k j (s / 2 ^ k) = c * WT f0 f1 c g r (k + 1) (f0 k j) (s / 2 ^ k / 2) := by
          show (if s / 2 ^ k % 2 = 1 then c * WT f0 f1 c g r (k + 1) (f0 k j) (s / 2 ^ k / 2) else _) = _
          rw [if_pos (by omega)]
        have hb2 : bt (sp_X8_behind kd (nI j + -9) 0 (nI (y + k))) := bt_beh (bt_o j hj) bt_0
        obtain ⟨r1, _, r3⟩ := plc_of hb2
        rw [hbit]
        simp only [show nI 1 = 1 from rfl, z10, if_false, Option.bind_some, lt_, lN_mul, nI_1]
        refine Or.inr ⟨d, (_, _, _), rfl, rfl, k + 1, P * c, f0 k j, by omega, by rw [hf0]; exact r1, rfl, by rw [hf0]; exact r3, rfl, ?_⟩
        rw [show m - (k + 1) = r by omega, hs2, ← hW, eW, Nat.mul_assoc]) m FU (lN 1, nI j0 + -9, nI 0) (by rw [FU_eq]; omega) ⟨0, 1, j0, by omega, hj0, rfl, rfl, rfl, by rw [Nat.one_mul, Nat.pow_zero, Nat.div_one]; rfl⟩
  exact ⟨r, P, j, e, q⟩
theorem sh8 : ∀ m : Nat, m ≤ 8 → (1 : Int32) <<< (nI m &&& 31) = nI (2 ^ m) := by decide +kernel
theorem ways_eq {kd x : Int32} {y c m j0 : Nat} {pulls w : Nat → Int32} {g : Nat → Nat} {f0 f1 : Nat → Nat → Nat} (hf0 : ∀ k j : Nat, f0 k j = plc (sp_X8_behind kd (nI j + -9) 0 (nI (y + k)))) (hf1 : ∀ k j : Nat, f1 k j = plc (sp_X6_offBehind (nI (y + k)) (nI j + -9) kd pulls)) (hg : ∀ j : Nat, j < 19 → g j = if sp_X8_size (nI j + -9) < x then 0 else 1) (hy : y ≤ 9999) (hc : c ≤ 10) (hb : ∀ i : Nat, i < 6 → bt (pulls i)) (hm : m ≤ 8) (hj0 : j0 < 19) (hp : ∀ i : Nat, i < 6 → pulls i = w (69 + i)) (h0 : w 0 = kd) (h1 : w 1 = nI j0 + -9) (h2 : w 2 = nI y) : ∃ r : Int64 × Int32, lp_X8_chance_67 x (nI m) (nI c) w FU 0 0 = some r ∧ r.1 = lN (VV f0 f1 c g m 0 j0) := by
  have hpow : 2 ^ m ≤ 2 ^ 8 := Nat.pow_le_pow_right (by omega) hm
  obtain ⟨r, e, q⟩ := lk1 (L := fun fu (t : Int64 × Int32) => lp_X8_chance_67 x (nI m) (nI c) w fu t.1 t.2)
    (fun d t => ∃ i : Nat, i + d = 2 ^ m ∧ t.2 = nI i ∧ t.1 = lN (sumf (WT f0 f1 c g m 0 j0) i)) (fun r => r.1 = lN (sumf (WT f0 f1 c g m 0 j0) (2 ^ m))) (by
    rintro d fu ⟨a, z⟩ hd ⟨i, hi, ez, ea⟩
    simp only at ea ez
    subst ea; subst ez
    dsimp only
    rw [lp_X8_chance_67, sh8 m hm]
    simp only [cl_1, h1]
    cases d with
    | zero =>
      obtain rfl : i = 2 ^ m := by omega
      rw [if_pos (Int32.le_refl _)]
      exact Or.inl ⟨_, rfl, rfl⟩
    | succ d =>
      obtain ⟨r, P, j, e1, hj, e2, e3, e4⟩ := way_eq (x := x) (s := i) hf0 hf1 hy hc hb hm (by omega) hj0 hp h0 h2
      rw [if_neg (nI_ge (by omega) (by omega)), e1]
      simp only [Option.bind_some, lt_, nI_1, e2, e3]
      refine Or.inr ⟨d, (_, _), rfl, rfl, i + 1, by omega, rfl, ?_⟩
      show _ = lN (sumf (WT f0 f1 c g m 0 j0) i + WT f0 f1 c g m 0 j0 i)
      rw [← e4, hg j hj, ← lN_add]
      by_cases c0 : sp_X8_size (nI j + -9) < x
      · rw [if_pos c0, if_pos c0, Nat.mul_zero]; rfl
      · rw [if_neg c0, if_neg c0, Nat.mul_one]) (2 ^ m) FU (lN 0, nI 0) (by rw [FU_eq]; omega) ⟨0, by omega, rfl, rfl⟩
  refine ⟨r, e, ?_⟩
  rw [q, WT_sum]
theorem all_eq {m : Nat} (hm : m ≤ 8) : ∃ r : Int64 × Int32, lp_X8_chance_44 (nI m) FU 1 0 = some r ∧ r.1 = lN (10 ^ m) := by
  exact lk1 (L := fun fu (t : Int64 × Int32) => lp_X8_chance_44 (nI m) fu t.1 t.2)
    (fun d t => ∃ i : Nat, i + d = m ∧ t.2 = nI i ∧ t.1 = lN (10 ^ i)) (fun r => r.1 = lN (10 ^ m)) (by
    rintro d fu ⟨a, z⟩ hd ⟨i, hi, ez, ea⟩
    simp only at ea ez
    subst ea; subst ez
    dsimp only
    rw [lp_X8_chance_44]
    cases d with
    | zero =>
      obtain rfl : i = m := by omega
      rw [if_pos (Int32.le_refl _)]
      exact Or.inl ⟨_, rfl, rfl⟩
    | succ d =>
      rw [if_neg (nI_ge (by omega) (by omega)), nI_1]
      refine Or.inr ⟨d, (_, _), rfl, rfl, i + 1, by omega, rfl, ?_⟩
      show lN (10 ^ i) * 10 = lN (10 ^ (i + 1))
      rw [Nat.pow_succ]; exact lN_mul _ 10) m FU (lN (10 ^ 0), nI 0) (by rw [FU_eq]; omega) ⟨0, by omega, rfl, rfl⟩
theorem coreC_0 {kd x off : Int32} {y c : Nat} {pulls sp sb : Nat → Int32} {g : Nat → Nat} {f0 f1 : Nat → Nat → Nat} {ab bl : Int64} (hf0 : ∀ k j : Nat, f0 k j = plc (sp_X8_behind kd (nI j + -9) 0 (nI (y + k)))) (hf1 : ∀ k j : Nat, f1 k j = plc (sp_X6_offBehind (nI (y + k)) (nI j + -9) kd pulls)) (hg : ∀ j : Nat, j < 19 → g j = if sp_X8_size (nI j + -9) < x then 0 else 1) (hg1 : ∀ j : Nat, g j ≤ 1) (hy : y ≤ 9999) (hc : c ≤ 10) (ho : bt off) (hb : ∀ i : Nat, i < 6 → bt (pulls i)) (hx : ¬ sp_X2_within x 1 9 = 0) : ∃ (z : Int32 × Int64 × Int64 × (Nat → Int32)) (q : Nat) (r' : Int64 × Int64), sp_X7_chance_0 x (nI c) ab bl sp off = some z ∧ lp_X8_chance_209 FU (lN (VV f0 f1 c g 0 0 (plc off))) (lN (10 ^ 0)) = some r' ∧ ¬ r'.1 = 0 ∧ lN (VV f0 f1 c g 0 0 (plc off)) / r'.1 = z.2.1 ∧ lN (10 ^ 0) / r'.1 = z.2.2.1 ∧ z.1 = 1 := by
  have hc2 : ¬ sp_X2_within (nI c) 0 10 = 0 := by
    have := in_yes (lo := 0) (hi := 10) (n := c) (by omega) hc (by omega)
    rw [show sp_X2_within (nI c) 0 10 = 1 from this]; decide
  have hk2 : ¬ sp_X2_within 0 0 8 = 0 := by decide
  have hle := VV_le f0 f1 hc hg1 0 0 (plc off)
  obtain ⟨z7, i1, S0⟩ := SP_init (sp := sp) (f0 := f0) (f1 := f1) (c := c) (g := g) (m := 0) ho
  obtain ⟨D, d1, d2, d3⟩ := S0
  have d3 : sumf (fun j => D j * g j) 19 = VV f0 f1 c g 0 0 (plc off) := d3
  obtain ⟨u, u1, u2⟩ := partC_0 hg d1
  rw [d3] at u2
  obtain ⟨q, r', t1, t2, t3, t4, t5⟩ := frac_eq (ab := ab) (bl := bl) (a0 := VV f0 f1 c g 0 0 (plc off)) (b0 := 10 ^ 0) (by omega) (by omega) (by omega)
  have t1 : sp_X7_setFraction (nI (VV f0 f1 c g 0 0 (plc off))) 1 ab bl = some _ := t1
  refine ⟨(1, lN (VV f0 f1 c g 0 0 (plc off) / q), lN (10 ^ 0 / q), (sp_X2_put 19 (off + 9) 1 z7)), q, r', ?_, t2, t3, t4, t5, rfl⟩
  unfold sp_X7_chance_0
  simp only [lt_]
  rw [if_neg hx, if_neg hk2, if_neg hc2, if_neg (show ¬ (1 : Int32) = 0 from by decide), i1]
  simp only [Option.bind_some]
  rw [u1]
  simp only [Option.bind_some]
  rw [u2, t1]
  rfl
theorem coreC_1 {kd x off : Int32} {y c : Nat} {pulls sp sb : Nat → Int32} {g : Nat → Nat} {f0 f1 : Nat → Nat → Nat} {ab bl : Int64} (hf0 : ∀ k j : Nat, f0 k j = plc (sp_X8_behind kd (nI j + -9) 0 (nI (y + k)))) (hf1 : ∀ k j : Nat, f1 k j = plc (sp_X6_offBehind (nI (y + k)) (nI j + -9) kd pulls)) (hg : ∀ j : Nat, j < 19 → g j = if sp_X8_size (nI j + -9) < x then 0 else 1) (hg1 : ∀ j : Nat, g j ≤ 1) (hy : y ≤ 9999) (hc : c ≤ 10) (ho : bt off) (hb : ∀ i : Nat, i < 6 → bt (pulls i)) (hx : ¬ sp_X2_within x 1 9 = 0) : ∃ (z : Int32 × Int64 × Int64 × (Nat → Int32) × (Nat → Int32)) (q : Nat) (r' : Int64 × Int64), sp_X7_chance_1 x (nI c) ab bl sp kd off (nI y) sb pulls = some z ∧ lp_X8_chance_209 FU (lN (VV f0 f1 c g 1 0 (plc off))) (lN (10 ^ 1)) = some r' ∧ ¬ r'.1 = 0 ∧ lN (VV f0 f1 c g 1 0 (plc off)) / r'.1 = z.2.1 ∧ lN (10 ^ 1) / r'.1 = z.2.2.1 ∧ z.1 = 1 := by
  have hc2 : ¬ sp_X2_within (nI c) 0 10 = 0 := by
    have := in_yes (lo := 0) (hi := 10) (n := c) (by omega) hc (by omega)
    rw [show sp_X2_within (nI c) 0 10 = 1 from this]; decide
  have hk2 : ¬ sp_X2_within 1 0 8 = 0 := by decide
  have hle := VV_le f0 f1 hc hg1 1 0 (plc off)
  obtain ⟨z7, i1, S0⟩ := SP_init (sp := sp) (f0 := f0) (f1 := f1) (c := c) (g := g) (m := 1) ho
  obtain ⟨R1, a1, S1⟩ := SP_step (k := 0) (sb := sb) hf0 hf1 hy hc hb (by omega) (by omega) S0
  have a1 : sp_X7_spreadOverYear (nI y + 0) (nI c) sb (sp_X2_put 19 (off + 9) 1 z7) kd pulls = some R1 := by rw [show nI y + 0 = nI (y + 0) from nI_add y 0]; exact a1
  obtain ⟨D, d1, d2, d3⟩ := S1
  have d3 : sumf (fun j => D j * g j) 19 = VV f0 f1 c g 1 0 (plc off) := d3
  obtain ⟨u, u1, u2⟩ := partC_1 hg d1
  rw [d3] at u2
  obtain ⟨q, r', t1, t2, t3, t4, t5⟩ := frac_eq (ab := ab) (bl := bl) (a0 := VV f0 f1 c g 1 0 (plc off)) (b0 := 10 ^ 1) (by omega) (by omega) (by omega)
  have t1 : sp_X7_setFraction (nI (VV f0 f1 c g 1 0 (plc off))) 10 ab bl = some _ := t1
  refine ⟨(1, lN (VV f0 f1 c g 1 0 (plc off) / q), lN (10 ^ 1 / q), (sp_X2_put 19 (off + 9) 1 z7), R1), q, r', ?_, t2, t3, t4, t5, rfl⟩
  unfold sp_X7_chance_1
  simp only [lt_]
  rw [if_neg hx, if_neg hk2, if_neg hc2, if_neg (show ¬ (1 : Int32) = 0 from by decide), i1]
  simp only [Option.bind_some]
  rw [a1]
  simp only [Option.bind_some]
  rw [u1]
  simp only [Option.bind_some]
  rw [u2, t1]
  rfl
theorem coreC_2 {kd x off : Int32} {y c : Nat} {pulls sp sb : Nat → Int32} {g : Nat → Nat} {f0 f1 : Nat → Nat → Nat} {ab bl : Int64} (hf0 : ∀ k j : Nat, f0 k j = plc (sp_X8_behind kd (nI j + -9) 0 (nI (y + k)))) (hf1 : ∀ k j : Nat, f1 k j = plc (sp_X6_offBehind (nI (y + k)) (nI j + -9) kd pulls)) (hg : ∀ j : Nat, j < 19 → g j = if sp_X8_size (nI j + -9) < x then 0 else 1) (hg1 : ∀ j : Nat, g j ≤ 1) (hy : y ≤ 9999) (hc : c ≤ 10) (ho : bt off) (hb : ∀ i : Nat, i < 6 → bt (pulls i)) (hx : ¬ sp_X2_within x 1 9 = 0) : ∃ (z : Int32 × Int64 × Int64 × (Nat → Int32) × (Nat → Int32)) (q : Nat) (r' : Int64 × Int64), sp_X7_chance_2 x (nI c) ab bl sp kd off (nI y) sb pulls = some z ∧ lp_X8_chance_209 FU (lN (VV f0 f1 c g 2 0 (plc off))) (lN (10 ^ 2)) = some r' ∧ ¬ r'.1 = 0 ∧ lN (VV f0 f1 c g 2 0 (plc off)) / r'.1 = z.2.1 ∧ lN (10 ^ 2) / r'.1 = z.2.2.1 ∧ z.1 = 1 := by
  have hc2 : ¬ sp_X2_within (nI c) 0 10 = 0 := by
    have := in_yes (lo := 0) (hi := 10) (n := c) (by omega) hc (by omega)
    rw [show sp_X2_within (nI c) 0 10 = 1 from this]; decide
  have hk2 : ¬ sp_X2_within 2 0 8 = 0 := by decide
  have hle := VV_le f0 f1 hc hg1 2 0 (plc off)
  obtain ⟨z7, i1, S0⟩ := SP_init (sp := sp) (f0 := f0) (f1 := f1) (c := c) (g := g) (m := 2) ho
  obtain ⟨R1, a1, S1⟩ := SP_step (k := 0) (sb := sb) hf0 hf1 hy hc hb (by omega) (by omega) S0
  have a1 : sp_X7_spreadOverYear (nI y + 0) (nI c) sb (sp_X2_put 19 (off + 9) 1 z7) kd pulls = some R1 := by rw [show nI y + 0 = nI (y + 0) from nI_add y 0]; exact a1
  obtain ⟨R2, a2, S2⟩ := SP_step (k := 1) (sb := (sp_X2_put 19 (off + 9) 1 z7)) hf0 hf1 hy hc hb (by omega) (by omega) S1
  have a2 : sp_X7_spreadOverYear (nI y + 1) (nI c) (sp_X2_put 19 (off + 9) 1 z7) R1 kd pulls = some R2 := by rw [show nI y + 1 = nI (y + 1) from nI_add y 1]; exact a2
  obtain ⟨D, d1, d2, d3⟩ := S2
  have d3 : sumf (fun j => D j * g j) 19 = VV f0 f1 c g 2 0 (plc off) := d3
  obtain ⟨u, u1, u2⟩ := partC_2 hg d1
  rw [d3] at u2
  obtain ⟨q, r', t1, t2, t3, t4, t5⟩ := frac_eq (ab := ab) (bl := bl) (a0 := VV f0 f1 c g 2 0 (plc off)) (b0 := 10 ^ 2) (by omega) (by omega) (by omega)
  have t1 : sp_X7_setFraction (nI (VV f0 f1 c g 2 0 (plc off))) 100 ab bl = some _ := t1
  refine ⟨(1, lN (VV f0 f1 c g 2 0 (plc off) / q), lN (10 ^ 2 / q), R2, R1), q, r', ?_, t2, t3, t4, t5, rfl⟩
  unfold sp_X7_chance_2
  simp only [lt_]
  rw [if_neg hx, if_neg hk2, if_neg hc2, if_neg (show ¬ (1 : Int32) = 0 from by decide), i1]
  simp only [Option.bind_some]
  rw [a1]
  simp only [Option.bind_some]
  rw [a2]
  simp only [Option.bind_some]
  rw [u1]
  simp only [Option.bind_some]
  rw [u2, t1]
  rfl
theorem coreC_3 {kd x off : Int32} {y c : Nat} {pulls sp sb : Nat → Int32} {g : Nat → Nat} {f0 f1 : Nat → Nat → Nat} {ab bl : Int64} (hf0 : ∀ k j : Nat, f0 k j = plc (sp_X8_behind kd (nI j + -9) 0 (nI (y + k)))) (hf1 : ∀ k j : Nat, f1 k j = plc (sp_X6_offBehind (nI (y + k)) (nI j + -9) kd pulls)) (hg : ∀ j : Nat, j < 19 → g j = if sp_X8_size (nI j + -9) < x then 0 else 1) (hg1 : ∀ j : Nat, g j ≤ 1) (hy : y ≤ 9999) (hc : c ≤ 10) (ho : bt off) (hb : ∀ i : Nat, i < 6 → bt (pulls i)) (hx : ¬ sp_X2_within x 1 9 = 0) : ∃ (z : Int32 × Int64 × Int64 × (Nat → Int32) × (Nat → Int32)) (q : Nat) (r' : Int64 × Int64), sp_X7_chance_3 x (nI c) ab bl sp kd off (nI y) sb pulls = some z ∧ lp_X8_chance_209 FU (lN (VV f0 f1 c g 3 0 (plc off))) (lN (10 ^ 3)) = some r' ∧ ¬ r'.1 = 0 ∧ lN (VV f0 f1 c g 3 0 (plc off)) / r'.1 = z.2.1 ∧ lN (10 ^ 3) / r'.1 = z.2.2.1 ∧ z.1 = 1 := by
  have hc2 : ¬ sp_X2_within (nI c) 0 10 = 0 := by
    have := in_yes (lo := 0) (hi := 10) (n := c) (by omega) hc (by omega)
    rw [show sp_X2_within (nI c) 0 10 = 1 from this]; decide
  have hk2 : ¬ sp_X2_within 3 0 8 = 0 := by decide
  have hle := VV_le f0 f1 hc hg1 3 0 (plc off)
  obtain ⟨z7, i1, S0⟩ := SP_init (sp := sp) (f0 := f0) (f1 := f1) (c := c) (g := g) (m := 3) ho
  obtain ⟨R1, a1, S1⟩ := SP_step (k := 0) (sb := sb) hf0 hf1 hy hc hb (by omega) (by omega) S0
  have a1 : sp_X7_spreadOverYear (nI y + 0) (nI c) sb (sp_X2_put 19 (off + 9) 1 z7) kd pulls = some R1 := by rw [show nI y + 0 = nI (y + 0) from nI_add y 0]; exact a1
  obtain ⟨R2, a2, S2⟩ := SP_step (k := 1) (sb := (sp_X2_put 19 (off + 9) 1 z7)) hf0 hf1 hy hc hb (by omega) (by omega) S1
  have a2 : sp_X7_spreadOverYear (nI y + 1) (nI c) (sp_X2_put 19 (off + 9) 1 z7) R1 kd pulls = some R2 := by rw [show nI y + 1 = nI (y + 1) from nI_add y 1]; exact a2
  obtain ⟨R3, a3, S3⟩ := SP_step (k := 2) (sb := R1) hf0 hf1 hy hc hb (by omega) (by omega) S2
  have a3 : sp_X7_spreadOverYear (nI y + 2) (nI c) R1 R2 kd pulls = some R3 := by rw [show nI y + 2 = nI (y + 2) from nI_add y 2]; exact a3
  obtain ⟨D, d1, d2, d3⟩ := S3
  have d3 : sumf (fun j => D j * g j) 19 = VV f0 f1 c g 3 0 (plc off) := d3
  obtain ⟨u, u1, u2⟩ := partC_3 hg d1
  rw [d3] at u2
  obtain ⟨q, r', t1, t2, t3, t4, t5⟩ := frac_eq (ab := ab) (bl := bl) (a0 := VV f0 f1 c g 3 0 (plc off)) (b0 := 10 ^ 3) (by omega) (by omega) (by omega)
  have t1 : sp_X7_setFraction (nI (VV f0 f1 c g 3 0 (plc off))) 1000 ab bl = some _ := t1
  refine ⟨(1, lN (VV f0 f1 c g 3 0 (plc off) / q), lN (10 ^ 3 / q), R2, R3), q, r', ?_, t2, t3, t4, t5, rfl⟩
  unfold sp_X7_chance_3
  simp only [lt_]
  rw [if_neg hx, if_neg hk2, if_neg hc2, if_neg (show ¬ (1 : Int32) = 0 from by decide), i1]
  simp only [Option.bind_some]
  rw [a1]
  simp only [Option.bind_some]
  rw [a2]
  simp only [Option.bind_some]
  rw [a3]
  simp only [Option.bind_some]
  rw [u1]
  simp only [Option.bind_some]
  rw [u2, t1]
  rfl
theorem coreC_4 {kd x off : Int32} {y c : Nat} {pulls sp sb : Nat → Int32} {g : Nat → Nat} {f0 f1 : Nat → Nat → Nat} {ab bl : Int64} (hf0 : ∀ k j : Nat, f0 k j = plc (sp_X8_behind kd (nI j + -9) 0 (nI (y + k)))) (hf1 : ∀ k j : Nat, f1 k j = plc (sp_X6_offBehind (nI (y + k)) (nI j + -9) kd pulls)) (hg : ∀ j : Nat, j < 19 → g j = if sp_X8_size (nI j + -9) < x then 0 else 1) (hg1 : ∀ j : Nat, g j ≤ 1) (hy : y ≤ 9999) (hc : c ≤ 10) (ho : bt off) (hb : ∀ i : Nat, i < 6 → bt (pulls i)) (hx : ¬ sp_X2_within x 1 9 = 0) : ∃ (z : Int32 × Int64 × Int64 × (Nat → Int32) × (Nat → Int32)) (q : Nat) (r' : Int64 × Int64), sp_X7_chance_4 x (nI c) ab bl sp kd off (nI y) sb pulls = some z ∧ lp_X8_chance_209 FU (lN (VV f0 f1 c g 4 0 (plc off))) (lN (10 ^ 4)) = some r' ∧ ¬ r'.1 = 0 ∧ lN (VV f0 f1 c g 4 0 (plc off)) / r'.1 = z.2.1 ∧ lN (10 ^ 4) / r'.1 = z.2.2.1 ∧ z.1 = 1 := by
  have hc2 : ¬ sp_X2_within (nI c) 0 10 = 0 := by
    have := in_yes (lo := 0) (hi := 10) (n := c) (by omega) hc (by omega)
    rw [show sp_X2_within (nI c) 0 10 = 1 from this]; decide
  have hk2 : ¬ sp_X2_within 4 0 8 = 0 := by decide
  have hle := VV_le f0 f1 hc hg1 4 0 (plc off)
  obtain ⟨z7, i1, S0⟩ := SP_init (sp := sp) (f0 := f0) (f1 := f1) (c := c) (g := g) (m := 4) ho
  obtain ⟨R1, a1, S1⟩ := SP_step (k := 0) (sb := sb) hf0 hf1 hy hc hb (by omega) (by omega) S0
  have a1 : sp_X7_spreadOverYear (nI y + 0) (nI c) sb (sp_X2_put 19 (off + 9) 1 z7) kd pulls = some R1 := by rw [show nI y + 0 = nI (y + 0) from nI_add y 0]; exact a1
  obtain ⟨R2, a2, S2⟩ := SP_step (k := 1) (sb := (sp_X2_put 19 (off + 9) 1 z7)) hf0 hf1 hy hc hb (by omega) (by omega) S1
  have a2 : sp_X7_spreadOverYear (nI y + 1) (nI c) (sp_X2_put 19 (off + 9) 1 z7) R1 kd pulls = some R2 := by rw [show nI y + 1 = nI (y + 1) from nI_add y 1]; exact a2
  obtain ⟨R3, a3, S3⟩ := SP_step (k := 2) (sb := R1) hf0 hf1 hy hc hb (by omega) (by omega) S2
  have a3 : sp_X7_spreadOverYear (nI y + 2) (nI c) R1 R2 kd pulls = some R3 := by rw [show nI y + 2 = nI (y + 2) from nI_add y 2]; exact a3
  obtain ⟨R4, a4, S4⟩ := SP_step (k := 3) (sb := R2) hf0 hf1 hy hc hb (by omega) (by omega) S3
  have a4 : sp_X7_spreadOverYear (nI y + 3) (nI c) R2 R3 kd pulls = some R4 := by rw [show nI y + 3 = nI (y + 3) from nI_add y 3]; exact a4
  obtain ⟨D, d1, d2, d3⟩ := S4
  have d3 : sumf (fun j => D j * g j) 19 = VV f0 f1 c g 4 0 (plc off) := d3
  obtain ⟨u, u1, u2⟩ := partC_4 hg d1
  rw [d3] at u2
  obtain ⟨q, r', t1, t2, t3, t4, t5⟩ := frac_eq (ab := ab) (bl := bl) (a0 := VV f0 f1 c g 4 0 (plc off)) (b0 := 10 ^ 4) (by omega) (by omega) (by omega)
  have t1 : sp_X7_setFraction (nI (VV f0 f1 c g 4 0 (plc off))) 10000 ab bl = some _ := t1
  refine ⟨(1, lN (VV f0 f1 c g 4 0 (plc off) / q), lN (10 ^ 4 / q), R4, R3), q, r', ?_, t2, t3, t4, t5, rfl⟩
  unfold sp_X7_chance_4
  simp only [lt_]
  rw [if_neg hx, if_neg hk2, if_neg hc2, if_neg (show ¬ (1 : Int32) = 0 from by decide), i1]
  simp only [Option.bind_some]
  rw [a1]
  simp only [Option.bind_some]
  rw [a2]
  simp only [Option.bind_some]
  rw [a3]
  simp only [Option.bind_some]
  rw [a4]
  simp only [Option.bind_some]
  rw [u1]
  simp only [Option.bind_some]
  rw [u2, t1]
  rfl
theorem coreC_5 {kd x off : Int32} {y c : Nat} {pulls sp sb : Nat → Int32} {g : Nat → Nat} {f0 f1 : Nat → Nat → Nat} {ab bl : Int64} (hf0 : ∀ k j : Nat, f0 k j = plc (sp_X8_behind kd (nI j + -9) 0 (nI (y + k)))) (hf1 : ∀ k j : Nat, f1 k j = plc (sp_X6_offBehind (nI (y + k)) (nI j + -9) kd pulls)) (hg : ∀ j : Nat, j < 19 → g j = if sp_X8_size (nI j + -9) < x then 0 else 1) (hg1 : ∀ j : Nat, g j ≤ 1) (hy : y ≤ 9999) (hc : c ≤ 10) (ho : bt off) (hb : ∀ i : Nat, i < 6 → bt (pulls i)) (hx : ¬ sp_X2_within x 1 9 = 0) : ∃ (z : Int32 × Int64 × Int64 × (Nat → Int32) × (Nat → Int32)) (q : Nat) (r' : Int64 × Int64), sp_X7_chance_5 x (nI c) ab bl sp kd off (nI y) sb pulls = some z ∧ lp_X8_chance_209 FU (lN (VV f0 f1 c g 5 0 (plc off))) (lN (10 ^ 5)) = some r' ∧ ¬ r'.1 = 0 ∧ lN (VV f0 f1 c g 5 0 (plc off)) / r'.1 = z.2.1 ∧ lN (10 ^ 5) / r'.1 = z.2.2.1 ∧ z.1 = 1 := by
  have hc2 : ¬ sp_X2_within (nI c) 0 10 = 0 := by
    have := in_yes (lo := 0) (hi := 10) (n := c) (by omega) hc (by omega)
    rw [show sp_X2_within (nI c) 0 10 = 1 from this]; decide
  have hk2 : ¬ sp_X2_within 5 0 8 = 0 := by decide
  have hle := VV_le f0 f1 hc hg1 5 0 (plc off)
  obtain ⟨z7, i1, S0⟩ := SP_init (sp := sp) (f0 := f0) (f1 := f1) (c := c) (g := g) (m := 5) ho
  obtain ⟨R1, a1, S1⟩ := SP_step (k := 0) (sb := sb) hf0 hf1 hy hc hb (by omega) (by omega) S0
  have a1 : sp_X7_spreadOverYear (nI y + 0) (nI c) sb (sp_X2_put 19 (off + 9) 1 z7) kd pulls = some R1 := by rw [show nI y + 0 = nI (y + 0) from nI_add y 0]; exact a1
  obtain ⟨R2, a2, S2⟩ := SP_step (k := 1) (sb := (sp_X2_put 19 (off + 9) 1 z7)) hf0 hf1 hy hc hb (by omega) (by omega) S1
  have a2 : sp_X7_spreadOverYear (nI y + 1) (nI c) (sp_X2_put 19 (off + 9) 1 z7) R1 kd pulls = some R2 := by rw [show nI y + 1 = nI (y + 1) from nI_add y 1]; exact a2
  obtain ⟨R3, a3, S3⟩ := SP_step (k := 2) (sb := R1) hf0 hf1 hy hc hb (by omega) (by omega) S2
  have a3 : sp_X7_spreadOverYear (nI y + 2) (nI c) R1 R2 kd pulls = some R3 := by rw [show nI y + 2 = nI (y + 2) from nI_add y 2]; exact a3
  obtain ⟨R4, a4, S4⟩ := SP_step (k := 3) (sb := R2) hf0 hf1 hy hc hb (by omega) (by omega) S3
  have a4 : sp_X7_spreadOverYear (nI y + 3) (nI c) R2 R3 kd pulls = some R4 := by rw [show nI y + 3 = nI (y + 3) from nI_add y 3]; exact a4
  obtain ⟨R5, a5, S5⟩ := SP_step (k := 4) (sb := R3) hf0 hf1 hy hc hb (by omega) (by omega) S4
  have a5 : sp_X7_spreadOverYear (nI y + 4) (nI c) R3 R4 kd pulls = some R5 := by rw [show nI y + 4 = nI (y + 4) from nI_add y 4]; exact a5
  obtain ⟨D, d1, d2, d3⟩ := S5
  have d3 : sumf (fun j => D j * g j) 19 = VV f0 f1 c g 5 0 (plc off) := d3
  obtain ⟨u, u1, u2⟩ := partC_5 hg d1
  rw [d3] at u2
  obtain ⟨q, r', t1, t2, t3, t4, t5⟩ := frac_eq (ab := ab) (bl := bl) (a0 := VV f0 f1 c g 5 0 (plc off)) (b0 := 10 ^ 5) (by omega) (by omega) (by omega)
  have t1 : sp_X7_setFraction (nI (VV f0 f1 c g 5 0 (plc off))) 100000 ab bl = some _ := t1
  refine ⟨(1, lN (VV f0 f1 c g 5 0 (plc off) / q), lN (10 ^ 5 / q), R4, R5), q, r', ?_, t2, t3, t4, t5, rfl⟩
  unfold sp_X7_chance_5
  simp only [lt_]
  rw [if_neg hx, if_neg hk2, if_neg hc2, if_neg (show ¬ (1 : Int32) = 0 from by decide), i1]
  simp only [Option.bind_some]
  rw [a1]
  simp only [Option.bind_some]
  rw [a2]
  simp only [Option.bind_some]
  rw [a3]
  simp only [Option.bind_some]
  rw [a4]
  simp only [Option.bind_some]
  rw [a5]
  simp only [Option.bind_some]
  rw [u1]
  simp only [Option.bind_some]
  rw [u2, t1]
  rfl
theorem coreC_6 {kd x off : Int32} {y c : Nat} {pulls sp sb : Nat → Int32} {g : Nat → Nat} {f0 f1 : Nat → Nat → Nat} {ab bl : Int64} (hf0 : ∀ k j : Nat, f0 k j = plc (sp_X8_behind kd (nI j + -9) 0 (nI (y + k)))) (hf1 : ∀ k j : Nat, f1 k j = plc (sp_X6_offBehind (nI (y + k)) (nI j + -9) kd pulls)) (hg : ∀ j : Nat, j < 19 → g j = if sp_X8_size (nI j + -9) < x then 0 else 1) (hg1 : ∀ j : Nat, g j ≤ 1) (hy : y ≤ 9999) (hc : c ≤ 10) (ho : bt off) (hb : ∀ i : Nat, i < 6 → bt (pulls i)) (hx : ¬ sp_X2_within x 1 9 = 0) : ∃ (z : Int32 × Int64 × Int64 × (Nat → Int32) × (Nat → Int32)) (q : Nat) (r' : Int64 × Int64), sp_X7_chance_6 x (nI c) ab bl sp kd off (nI y) sb pulls = some z ∧ lp_X8_chance_209 FU (lN (VV f0 f1 c g 6 0 (plc off))) (lN (10 ^ 6)) = some r' ∧ ¬ r'.1 = 0 ∧ lN (VV f0 f1 c g 6 0 (plc off)) / r'.1 = z.2.1 ∧ lN (10 ^ 6) / r'.1 = z.2.2.1 ∧ z.1 = 1 := by
  have hc2 : ¬ sp_X2_within (nI c) 0 10 = 0 := by
    have := in_yes (lo := 0) (hi := 10) (n := c) (by omega) hc (by omega)
    rw [show sp_X2_within (nI c) 0 10 = 1 from this]; decide
  have hk2 : ¬ sp_X2_within 6 0 8 = 0 := by decide
  have hle := VV_le f0 f1 hc hg1 6 0 (plc off)
  obtain ⟨z7, i1, S0⟩ := SP_init (sp := sp) (f0 := f0) (f1 := f1) (c := c) (g := g) (m := 6) ho
  obtain ⟨R1, a1, S1⟩ := SP_step (k := 0) (sb := sb) hf0 hf1 hy hc hb (by omega) (by omega) S0
  have a1 : sp_X7_spreadOverYear (nI y + 0) (nI c) sb (sp_X2_put 19 (off + 9) 1 z7) kd pulls = some R1 := by rw [show nI y + 0 = nI (y + 0) from nI_add y 0]; exact a1
  obtain ⟨R2, a2, S2⟩ := SP_step (k := 1) (sb := (sp_X2_put 19 (off + 9) 1 z7)) hf0 hf1 hy hc hb (by omega) (by omega) S1
  have a2 : sp_X7_spreadOverYear (nI y + 1) (nI c) (sp_X2_put 19 (off + 9) 1 z7) R1 kd pulls = some R2 := by rw [show nI y + 1 = nI (y + 1) from nI_add y 1]; exact a2
  obtain ⟨R3, a3, S3⟩ := SP_step (k := 2) (sb := R1) hf0 hf1 hy hc hb (by omega) (by omega) S2
  have a3 : sp_X7_spreadOverYear (nI y + 2) (nI c) R1 R2 kd pulls = some R3 := by rw [show nI y + 2 = nI (y + 2) from nI_add y 2]; exact a3
  obtain ⟨R4, a4, S4⟩ := SP_step (k := 3) (sb := R2) hf0 hf1 hy hc hb (by omega) (by omega) S3
  have a4 : sp_X7_spreadOverYear (nI y + 3) (nI c) R2 R3 kd pulls = some R4 := by rw [show nI y + 3 = nI (y + 3) from nI_add y 3]; exact a4
  obtain ⟨R5, a5, S5⟩ := SP_step (k := 4) (sb := R3) hf0 hf1 hy hc hb (by omega) (by omega) S4
  have a5 : sp_X7_spreadOverYear (nI y + 4) (nI c) R3 R4 kd pulls = some R5 := by rw [show nI y + 4 = nI (y + 4) from nI_add y 4]; exact a5
  obtain ⟨R6, a6, S6⟩ := SP_step (k := 5) (sb := R4) hf0 hf1 hy hc hb (by omega) (by omega) S5
  have a6 : sp_X7_spreadOverYear (nI y + 5) (nI c) R4 R5 kd pulls = some R6 := by rw [show nI y + 5 = nI (y + 5) from nI_add y 5]; exact a6
  obtain ⟨D, d1, d2, d3⟩ := S6
  have d3 : sumf (fun j => D j * g j) 19 = VV f0 f1 c g 6 0 (plc off) := d3
  obtain ⟨u, u1, u2⟩ := partC_6 hg d1
  rw [d3] at u2
  obtain ⟨q, r', t1, t2, t3, t4, t5⟩ := frac_eq (ab := ab) (bl := bl) (a0 := VV f0 f1 c g 6 0 (plc off)) (b0 := 10 ^ 6) (by omega) (by omega) (by omega)
  have t1 : sp_X7_setFraction (nI (VV f0 f1 c g 6 0 (plc off))) 1000000 ab bl = some _ := t1
  refine ⟨(1, lN (VV f0 f1 c g 6 0 (plc off) / q), lN (10 ^ 6 / q), R6, R5), q, r', ?_, t2, t3, t4, t5, rfl⟩
  unfold sp_X7_chance_6
  simp only [lt_]
  rw [if_neg hx, if_neg hk2, if_neg hc2, if_neg (show ¬ (1 : Int32) = 0 from by decide), i1]
  simp only [Option.bind_some]
  rw [a1]
  simp only [Option.bind_some]
  rw [a2]
  simp only [Option.bind_some]
  rw [a3]
  simp only [Option.bind_some]
  rw [a4]
  simp only [Option.bind_some]
  rw [a5]
  simp only [Option.bind_some]
  rw [a6]
  simp only [Option.bind_some]
  rw [u1]
  simp only [Option.bind_some]
  rw [u2, t1]
  rfl
theorem coreC_7 {kd x off : Int32} {y c : Nat} {pulls sp sb : Nat → Int32} {g : Nat → Nat} {f0 f1 : Nat → Nat → Nat} {ab bl : Int64} (hf0 : ∀ k j : Nat, f0 k j = plc (sp_X8_behind kd (nI j + -9) 0 (nI (y + k)))) (hf1 : ∀ k j : Nat, f1 k j = plc (sp_X6_offBehind (nI (y + k)) (nI j + -9) kd pulls)) (hg : ∀ j : Nat, j < 19 → g j = if sp_X8_size (nI j + -9) < x then 0 else 1) (hg1 : ∀ j : Nat, g j ≤ 1) (hy : y ≤ 9999) (hc : c ≤ 10) (ho : bt off) (hb : ∀ i : Nat, i < 6 → bt (pulls i)) (hx : ¬ sp_X2_within x 1 9 = 0) : ∃ (z : Int32 × Int64 × Int64 × (Nat → Int32) × (Nat → Int32)) (q : Nat) (r' : Int64 × Int64), sp_X7_chance_7 x (nI c) ab bl sp kd off (nI y) sb pulls = some z ∧ lp_X8_chance_209 FU (lN (VV f0 f1 c g 7 0 (plc off))) (lN (10 ^ 7)) = some r' ∧ ¬ r'.1 = 0 ∧ lN (VV f0 f1 c g 7 0 (plc off)) / r'.1 = z.2.1 ∧ lN (10 ^ 7) / r'.1 = z.2.2.1 ∧ z.1 = 1 := by
  have hc2 : ¬ sp_X2_within (nI c) 0 10 = 0 := by
    have := in_yes (lo := 0) (hi := 10) (n := c) (by omega) hc (by omega)
    rw [show sp_X2_within (nI c) 0 10 = 1 from this]; decide
  have hk2 : ¬ sp_X2_within 7 0 8 = 0 := by decide
  have hle := VV_le f0 f1 hc hg1 7 0 (plc off)
  obtain ⟨z7, i1, S0⟩ := SP_init (sp := sp) (f0 := f0) (f1 := f1) (c := c) (g := g) (m := 7) ho
  obtain ⟨R1, a1, S1⟩ := SP_step (k := 0) (sb := sb) hf0 hf1 hy hc hb (by omega) (by omega) S0
  have a1 : sp_X7_spreadOverYear (nI y + 0) (nI c) sb (sp_X2_put 19 (off + 9) 1 z7) kd pulls = some R1 := by rw [show nI y + 0 = nI (y + 0) from nI_add y 0]; exact a1
  obtain ⟨R2, a2, S2⟩ := SP_step (k := 1) (sb := (sp_X2_put 19 (off + 9) 1 z7)) hf0 hf1 hy hc hb (by omega) (by omega) S1
  have a2 : sp_X7_spreadOverYear (nI y + 1) (nI c) (sp_X2_put 19 (off + 9) 1 z7) R1 kd pulls = some R2 := by rw [show nI y + 1 = nI (y + 1) from nI_add y 1]; exact a2
  obtain ⟨R3, a3, S3⟩ := SP_step (k := 2) (sb := R1) hf0 hf1 hy hc hb (by omega) (by omega) S2
  have a3 : sp_X7_spreadOverYear (nI y + 2) (nI c) R1 R2 kd pulls = some R3 := by rw [show nI y + 2 = nI (y + 2) from nI_add y 2]; exact a3
  obtain ⟨R4, a4, S4⟩ := SP_step (k := 3) (sb := R2) hf0 hf1 hy hc hb (by omega) (by omega) S3
  have a4 : sp_X7_spreadOverYear (nI y + 3) (nI c) R2 R3 kd pulls = some R4 := by rw [show nI y + 3 = nI (y + 3) from nI_add y 3]; exact a4
  obtain ⟨R5, a5, S5⟩ := SP_step (k := 4) (sb := R3) hf0 hf1 hy hc hb (by omega) (by omega) S4
  have a5 : sp_X7_spreadOverYear (nI y + 4) (nI c) R3 R4 kd pulls = some R5 := by rw [show nI y + 4 = nI (y + 4) from nI_add y 4]; exact a5
  obtain ⟨R6, a6, S6⟩ := SP_step (k := 5) (sb := R4) hf0 hf1 hy hc hb (by omega) (by omega) S5
  have a6 : sp_X7_spreadOverYear (nI y + 5) (nI c) R4 R5 kd pulls = some R6 := by rw [show nI y + 5 = nI (y + 5) from nI_add y 5]; exact a6
  obtain ⟨R7, a7, S7⟩ := SP_step (k := 6) (sb := R5) hf0 hf1 hy hc hb (by omega) (by omega) S6
  have a7 : sp_X7_spreadOverYear (nI y + 6) (nI c) R5 R6 kd pulls = some R7 := by rw [show nI y + 6 = nI (y + 6) from nI_add y 6]; exact a7
  obtain ⟨D, d1, d2, d3⟩ := S7
  have d3 : sumf (fun j => D j * g j) 19 = VV f0 f1 c g 7 0 (plc off) := d3
  obtain ⟨u, u1, u2⟩ := partC_7 hg d1
  rw [d3] at u2
  obtain ⟨q, r', t1, t2, t3, t4, t5⟩ := frac_eq (ab := ab) (bl := bl) (a0 := VV f0 f1 c g 7 0 (plc off)) (b0 := 10 ^ 7) (by omega) (by omega) (by omega)
  have t1 : sp_X7_setFraction (nI (VV f0 f1 c g 7 0 (plc off))) 10000000 ab bl = some _ := t1
  refine ⟨(1, lN (VV f0 f1 c g 7 0 (plc off) / q), lN (10 ^ 7 / q), R6, R7), q, r', ?_, t2, t3, t4, t5, rfl⟩
  unfold sp_X7_chance_7
  simp only [lt_]
  rw [if_neg hx, if_neg hk2, if_neg hc2, if_neg (show ¬ (1 : Int32) = 0 from by decide), i1]
  simp only [Option.bind_some]
  rw [a1]
  simp only [Option.bind_some]
  rw [a2]
  simp only [Option.bind_some]
  rw [a3]
  simp only [Option.bind_some]
  rw [a4]
  simp only [Option.bind_some]
  rw [a5]
  simp only [Option.bind_some]
  rw [a6]
  simp only [Option.bind_some]
  rw [a7]
  simp only [Option.bind_some]
  rw [u1]
  simp only [Option.bind_some]
  rw [u2, t1]
  rfl
theorem coreC_8 {kd x off : Int32} {y c : Nat} {pulls sp sb : Nat → Int32} {g : Nat → Nat} {f0 f1 : Nat → Nat → Nat} {ab bl : Int64} (hf0 : ∀ k j : Nat, f0 k j = plc (sp_X8_behind kd (nI j + -9) 0 (nI (y + k)))) (hf1 : ∀ k j : Nat, f1 k j = plc (sp_X6_offBehind (nI (y + k)) (nI j + -9) kd pulls)) (hg : ∀ j : Nat, j < 19 → g j = if sp_X8_size (nI j + -9) < x then 0 else 1) (hg1 : ∀ j : Nat, g j ≤ 1) (hy : y ≤ 9999) (hc : c ≤ 10) (ho : bt off) (hb : ∀ i : Nat, i < 6 → bt (pulls i)) (hx : ¬ sp_X2_within x 1 9 = 0) : ∃ (z : Int32 × Int64 × Int64 × (Nat → Int32) × (Nat → Int32)) (q : Nat) (r' : Int64 × Int64), sp_X7_chance_8 x (nI c) ab bl sp kd off (nI y) sb pulls = some z ∧ lp_X8_chance_209 FU (lN (VV f0 f1 c g 8 0 (plc off))) (lN (10 ^ 8)) = some r' ∧ ¬ r'.1 = 0 ∧ lN (VV f0 f1 c g 8 0 (plc off)) / r'.1 = z.2.1 ∧ lN (10 ^ 8) / r'.1 = z.2.2.1 ∧ z.1 = 1 := by
  have hc2 : ¬ sp_X2_within (nI c) 0 10 = 0 := by
    have := in_yes (lo := 0) (hi := 10) (n := c) (by omega) hc (by omega)
    rw [show sp_X2_within (nI c) 0 10 = 1 from this]; decide
  have hk2 : ¬ sp_X2_within 8 0 8 = 0 := by decide
  have hle := VV_le f0 f1 hc hg1 8 0 (plc off)
  obtain ⟨z7, i1, S0⟩ := SP_init (sp := sp) (f0 := f0) (f1 := f1) (c := c) (g := g) (m := 8) ho
  obtain ⟨R1, a1, S1⟩ := SP_step (k := 0) (sb := sb) hf0 hf1 hy hc hb (by omega) (by omega) S0
  have a1 : sp_X7_spreadOverYear (nI y + 0) (nI c) sb (sp_X2_put 19 (off + 9) 1 z7) kd pulls = some R1 := by rw [show nI y + 0 = nI (y + 0) from nI_add y 0]; exact a1
  obtain ⟨R2, a2, S2⟩ := SP_step (k := 1) (sb := (sp_X2_put 19 (off + 9) 1 z7)) hf0 hf1 hy hc hb (by omega) (by omega) S1
  have a2 : sp_X7_spreadOverYear (nI y + 1) (nI c) (sp_X2_put 19 (off + 9) 1 z7) R1 kd pulls = some R2 := by rw [show nI y + 1 = nI (y + 1) from nI_add y 1]; exact a2
  obtain ⟨R3, a3, S3⟩ := SP_step (k := 2) (sb := R1) hf0 hf1 hy hc hb (by omega) (by omega) S2
  have a3 : sp_X7_spreadOverYear (nI y + 2) (nI c) R1 R2 kd pulls = some R3 := by rw [show nI y + 2 = nI (y + 2) from nI_add y 2]; exact a3
  obtain ⟨R4, a4, S4⟩ := SP_step (k := 3) (sb := R2) hf0 hf1 hy hc hb (by omega) (by omega) S3
  have a4 : sp_X7_spreadOverYear (nI y + 3) (nI c) R2 R3 kd pulls = some R4 := by rw [show nI y + 3 = nI (y + 3) from nI_add y 3]; exact a4
  obtain ⟨R5, a5, S5⟩ := SP_step (k := 4) (sb := R3) hf0 hf1 hy hc hb (by omega) (by omega) S4
  have a5 : sp_X7_spreadOverYear (nI y + 4) (nI c) R3 R4 kd pulls = some R5 := by rw [show nI y + 4 = nI (y + 4) from nI_add y 4]; exact a5
  obtain ⟨R6, a6, S6⟩ := SP_step (k := 5) (sb := R4) hf0 hf1 hy hc hb (by omega) (by omega) S5
  have a6 : sp_X7_spreadOverYear (nI y + 5) (nI c) R4 R5 kd pulls = some R6 := by rw [show nI y + 5 = nI (y + 5) from nI_add y 5]; exact a6
  obtain ⟨R7, a7, S7⟩ := SP_step (k := 6) (sb := R5) hf0 hf1 hy hc hb (by omega) (by omega) S6
  have a7 : sp_X7_spreadOverYear (nI y + 6) (nI c) R5 R6 kd pulls = some R7 := by rw [show nI y + 6 = nI (y + 6) from nI_add y 6]; exact a7
  obtain ⟨R8, a8, S8⟩ := SP_step (k := 7) (sb := R6) hf0 hf1 hy hc hb (by omega) (by omega) S7
  have a8 : sp_X7_spreadOverYear (nI y + 7) (nI c) R6 R7 kd pulls = some R8 := by rw [show nI y + 7 = nI (y + 7) from nI_add y 7]; exact a8
  obtain ⟨D, d1, d2, d3⟩ := S8
  have d3 : sumf (fun j => D j * g j) 19 = VV f0 f1 c g 8 0 (plc off) := d3
  obtain ⟨u, u1, u2⟩ := partC_8 hg d1
  rw [d3] at u2
  obtain ⟨q, r', t1, t2, t3, t4, t5⟩ := frac_eq (ab := ab) (bl := bl) (a0 := VV f0 f1 c g 8 0 (plc off)) (b0 := 10 ^ 8) (by omega) (by omega) (by omega)
  have t1 : sp_X7_setFraction (nI (VV f0 f1 c g 8 0 (plc off))) 100000000 ab bl = some _ := t1
  refine ⟨(1, lN (VV f0 f1 c g 8 0 (plc off) / q), lN (10 ^ 8 / q), R8, R7), q, r', ?_, t2, t3, t4, t5, rfl⟩
  unfold sp_X7_chance_8
  simp only [lt_]
  rw [if_neg hx, if_neg hk2, if_neg hc2, if_neg (show ¬ (1 : Int32) = 0 from by decide), i1]
  simp only [Option.bind_some]
  rw [a1]
  simp only [Option.bind_some]
  rw [a2]
  simp only [Option.bind_some]
  rw [a3]
  simp only [Option.bind_some]
  rw [a4]
  simp only [Option.bind_some]
  rw [a5]
  simp only [Option.bind_some]
  rw [a6]
  simp only [Option.bind_some]
  rw [a7]
  simp only [Option.bind_some]
  rw [a8]
  simp only [Option.bind_some]
  rw [u1]
  simp only [Option.bind_some]
  rw [u2, t1]
  rfl
theorem badC {p1 p2 p3 c : Int32} {sp : Nat → Int32} {off : Int32} : (sp_X8_in p1 1 9 = 0 ∨ sp_X8_in p2 0 8 = 0 ∨ sp_X8_in p3 0 10 = 0) → sp_X7_chance_bad p1 p2 p3 c sp off = some (-2, c + 1) := by
  intro h
  unfold sp_X7_chance_bad
  simp only [lt_]
  rw [show (if sp_X2_within p1 1 9 = 0 then (0 : Int32) else if sp_X2_within p2 0 8 = 0 then 0 else if sp_X2_within p3 0 10 = 0 then 0 else 1) = 0 from ?_]
  · rfl
  · have h : sp_X2_within p1 1 9 = 0 ∨ sp_X2_within p2 0 8 = 0 ∨ sp_X2_within p3 0 10 = 0 := h
    by_cases a : sp_X2_within p1 1 9 = 0
    · rw [if_pos a]
    · rw [if_neg a]
      by_cases b : sp_X2_within p2 0 8 = 0
      · rw [if_pos b]
      · rw [if_neg b]
        by_cases d : sp_X2_within p3 0 10 = 0
        · rw [if_pos d]
        · rcases h with h | h | h
          · exact absurd h a
          · exact absurd h b
          · exact absurd h d
theorem goodC {p1 p2 p3 c : Int32} {sp : Nat → Int32} {off : Int32} (a : ¬ sp_X8_in p1 1 9 = 0) (b : ¬ sp_X8_in p2 0 8 = 0) (d : ¬ sp_X8_in p3 0 10 = 0) : sp_X7_chance_bad p1 p2 p3 c sp off = none := by
  unfold sp_X7_chance_bad
  simp only [lt_]
  rw [if_neg (show ¬ sp_X2_within p1 1 9 = 0 from a), if_neg (show ¬ sp_X2_within p2 0 8 = 0 from b), if_neg (show ¬ sp_X2_within p3 0 10 = 0 from d), if_neg (show ¬ (1 : Int32) = 0 from by decide)]
  obtain ⟨T0, t0, t1⟩ := empty_eq (n := 19) (by omega) (f := sp)
  rw [t0]
  rfl
theorem S7_cbad {p1 p2 p3 : Int32} {s : CSt} (h : sp_X8_in p1 1 9 = 0 ∨ sp_X8_in p2 0 8 = 0 ∨ sp_X8_in p3 0 10 = 0) : ∃ s1 : CSt, S7_chance p1 p2 p3 s = some (-2, s1) ∧ s1.1 = va_up s.1 1 (s.1 1 + 1) ∧ s1.2 = s.2 := by
  obtain ⟨ci, cl, cf, cp, cq, sw, pa⟩ := s
  unfold S7_chance S7_chance_bad
  cases sw with
  | false => dsimp only; rw [badC h]; exact ⟨_, rfl, rfl, rfl⟩
  | true => dsimp only; rw [badC h]; exact ⟨_, rfl, rfl, rfl⟩
theorem S7_cgood {p1 p2 p3 : Int32} {s : CSt} (a : ¬ sp_X8_in p1 1 9 = 0) (b : ¬ sp_X8_in p2 0 8 = 0) (d : ¬ sp_X8_in p3 0 10 = 0) : S7_chance p1 p2 p3 s = S7_chance_ok p1 p2 p3 s := by
  obtain ⟨ci, cl, cf, cp, cq, sw, pa⟩ := s
  unfold S7_chance S7_chance_bad
  cases sw with
  | false => dsimp only; rw [goodC a b d]; rfl
  | true => dsimp only; rw [goodC a b d]; rfl
theorem S7_c0 {x : Int32} {c y : Nat} {s : CSt} {z1 z2 : Int64} (H : ∀ sp sb : Nat → Int32, ∃ z : Int32 × Int64 × Int64 × (Nat → Int32), sp_X7_chance_0 x (nI c) (s.2.1 0) (s.2.1 1) sp (s.1 9) = some z ∧ z.1 = 1 ∧ z.2.1 = z1 ∧ z.2.2.1 = z2) (hy : s.1 10 = nI y) : ∃ s1 : CSt, S7_chance_0 x (nI c) s = some (1, s1) ∧ s1.1 = s.1 ∧ s1.2.1 0 = z1 ∧ s1.2.1 1 = z2 ∧ (∀ j : Nat, j < 41 → s1.2.2.1 j = s.2.2.1 j) ∧ s1.2.2.2.1 = s.2.2.2.1 ∧ s1.2.2.2.2.1 = s.2.2.2.2.1 := by
  obtain ⟨ci, cl, cf, cp, cq, sw, pa⟩ := s
  unfold S7_chance_0
  cases sw with
  | false =>
    obtain ⟨z, h1, h2, h3, h4⟩ := H (cf 41) (cf 42)
    dsimp only at h1 ⊢
    rw [h1]
    simp only [Option.bind_some]
    refine ⟨_, by rw [h2], rfl, h3, h4, fun j hj => ?_, rfl, rfl⟩
    show va_up cf 41 z.2.2.2 j = cf j
    unfold va_up
    rw [if_neg (by omega)]
  | true =>
    obtain ⟨z, h1, h2, h3, h4⟩ := H (cf 42) (cf 41)
    dsimp only at h1 ⊢
    rw [h1]
    simp only [Option.bind_some]
    refine ⟨_, by rw [h2], rfl, h3, h4, fun j hj => ?_, rfl, rfl⟩
    show va_up cf 42 z.2.2.2 j = cf j
    unfold va_up
    rw [if_neg (by omega)]
theorem S7_c1 {x : Int32} {c y : Nat} {s : CSt} {z1 z2 : Int64} (H : ∀ sp sb : Nat → Int32, ∃ z : Int32 × Int64 × Int64 × (Nat → Int32) × (Nat → Int32), sp_X7_chance_1 x (nI c) (s.2.1 0) (s.2.1 1) sp (s.1 4) (s.1 9) (s.1 10) sb (s.2.2.1 0) = some z ∧ z.1 = 1 ∧ z.2.1 = z1 ∧ z.2.2.1 = z2) (hy : s.1 10 = nI y) : ∃ s1 : CSt, S7_chance_1 x (nI c) s = some (1, s1) ∧ s1.1 = s.1 ∧ s1.2.1 0 = z1 ∧ s1.2.1 1 = z2 ∧ (∀ j : Nat, j < 41 → s1.2.2.1 j = s.2.2.1 j) ∧ s1.2.2.2.1 = s.2.2.2.1 ∧ s1.2.2.2.2.1 = s.2.2.2.2.1 := by
  obtain ⟨ci, cl, cf, cp, cq, sw, pa⟩ := s
  unfold S7_chance_1
  cases sw with
  | false =>
    obtain ⟨z, h1, h2, h3, h4⟩ := H (cf 41) (cf 42)
    dsimp only at h1 ⊢
    rw [h1]
    simp only [Option.bind_some]
    refine ⟨_, by rw [h2], rfl, h3, h4, fun j hj => ?_, rfl, rfl⟩
    show va_up (va_up cf 41 z.2.2.2.1) 42 z.2.2.2.2 j = cf j
    unfold va_up
    rw [if_neg (by omega), if_neg (by omega)]
  | true =>
    obtain ⟨z, h1, h2, h3, h4⟩ := H (cf 42) (cf 41)
    dsimp only at h1 ⊢
    rw [h1]
    simp only [Option.bind_some]
    refine ⟨_, by rw [h2], rfl, h3, h4, fun j hj => ?_, rfl, rfl⟩
    show va_up (va_up cf 42 z.2.2.2.1) 41 z.2.2.2.2 j = cf j
    unfold va_up
    rw [if_neg (by omega), if_neg (by omega)]
theorem S7_c2 {x : Int32} {c y : Nat} {s : CSt} {z1 z2 : Int64} (H : ∀ sp sb : Nat → Int32, ∃ z : Int32 × Int64 × Int64 × (Nat → Int32) × (Nat → Int32), sp_X7_chance_2 x (nI c) (s.2.1 0) (s.2.1 1) sp (s.1 4) (s.1 9) (s.1 10) sb (s.2.2.1 0) = some z ∧ z.1 = 1 ∧ z.2.1 = z1 ∧ z.2.2.1 = z2) (hy : s.1 10 = nI y) : ∃ s1 : CSt, S7_chance_2 x (nI c) s = some (1, s1) ∧ s1.1 = s.1 ∧ s1.2.1 0 = z1 ∧ s1.2.1 1 = z2 ∧ (∀ j : Nat, j < 41 → s1.2.2.1 j = s.2.2.1 j) ∧ s1.2.2.2.1 = s.2.2.2.1 ∧ s1.2.2.2.2.1 = s.2.2.2.2.1 := by
  obtain ⟨ci, cl, cf, cp, cq, sw, pa⟩ := s
  unfold S7_chance_2
  cases sw with
  | false =>
    obtain ⟨z, h1, h2, h3, h4⟩ := H (cf 41) (cf 42)
    dsimp only at h1 ⊢
    rw [h1]
    simp only [Option.bind_some]
    refine ⟨_, by rw [h2], rfl, h3, h4, fun j hj => ?_, rfl, rfl⟩
    show va_up (va_up cf 41 z.2.2.2.1) 42 z.2.2.2.2 j = cf j
    unfold va_up
    rw [if_neg (by omega), if_neg (by omega)]
  | true =>
    obtain ⟨z, h1, h2, h3, h4⟩ := H (cf 42) (cf 41)
    dsimp only at h1 ⊢
    rw [h1]
    simp only [Option.bind_some]
    refine ⟨_, by rw [h2], rfl, h3, h4, fun j hj => ?_, rfl, rfl⟩
    show va_up (va_up cf 42 z.2.2.2.1) 41 z.2.2.2.2 j = cf j
    unfold va_up
    rw [if_neg (by omega), if_neg (by omega)]
theorem S7_c3 {x : Int32} {c y : Nat} {s : CSt} {z1 z2 : Int64} (H : ∀ sp sb : Nat → Int32, ∃ z : Int32 × Int64 × Int64 × (Nat → Int32) × (Nat → Int32), sp_X7_chance_3 x (nI c) (s.2.1 0) (s.2.1 1) sp (s.1 4) (s.1 9) (s.1 10) sb (s.2.2.1 0) = some z ∧ z.1 = 1 ∧ z.2.1 = z1 ∧ z.2.2.1 = z2) (hy : s.1 10 = nI y) : ∃ s1 : CSt, S7_chance_3 x (nI c) s = some (1, s1) ∧ s1.1 = s.1 ∧ s1.2.1 0 = z1 ∧ s1.2.1 1 = z2 ∧ (∀ j : Nat, j < 41 → s1.2.2.1 j = s.2.2.1 j) ∧ s1.2.2.2.1 = s.2.2.2.1 ∧ s1.2.2.2.2.1 = s.2.2.2.2.1 := by
  obtain ⟨ci, cl, cf, cp, cq, sw, pa⟩ := s
  unfold S7_chance_3
  cases sw with
  | false =>
    obtain ⟨z, h1, h2, h3, h4⟩ := H (cf 41) (cf 42)
    dsimp only at h1 ⊢
    rw [h1]
    simp only [Option.bind_some]
    refine ⟨_, by rw [h2], rfl, h3, h4, fun j hj => ?_, rfl, rfl⟩
    show va_up (va_up cf 41 z.2.2.2.1) 42 z.2.2.2.2 j = cf j
    unfold va_up
    rw [if_neg (by omega), if_neg (by omega)]
  | true =>
    obtain ⟨z, h1, h2, h3, h4⟩ := H (cf 42) (cf 41)
    dsimp only at h1 ⊢
    rw [h1]
    simp only [Option.bind_some]
    refine ⟨_, by rw [h2], rfl, h3, h4, fun j hj => ?_, rfl, rfl⟩
    show va_up (va_up cf 42 z.2.2.2.1) 41 z.2.2.2.2 j = cf j
    unfold va_up
    rw [if_neg (by omega), if_neg (by omega)]
theorem S7_c4 {x : Int32} {c y : Nat} {s : CSt} {z1 z2 : Int64} (H : ∀ sp sb : Nat → Int32, ∃ z : Int32 × Int64 × Int64 × (Nat → Int32) × (Nat → Int32), sp_X7_chance_4 x (nI c) (s.2.1 0) (s.2.1 1) sp (s.1 4) (s.1 9) (s.1 10) sb (s.2.2.1 0) = some z ∧ z.1 = 1 ∧ z.2.1 = z1 ∧ z.2.2.1 = z2) (hy : s.1 10 = nI y) : ∃ s1 : CSt, S7_chance_4 x (nI c) s = some (1, s1) ∧ s1.1 = s.1 ∧ s1.2.1 0 = z1 ∧ s1.2.1 1 = z2 ∧ (∀ j : Nat, j < 41 → s1.2.2.1 j = s.2.2.1 j) ∧ s1.2.2.2.1 = s.2.2.2.1 ∧ s1.2.2.2.2.1 = s.2.2.2.2.1 := by
  obtain ⟨ci, cl, cf, cp, cq, sw, pa⟩ := s
  unfold S7_chance_4
  cases sw with
  | false =>
    obtain ⟨z, h1, h2, h3, h4⟩ := H (cf 41) (cf 42)
    dsimp only at h1 ⊢
    rw [h1]
    simp only [Option.bind_some]
    refine ⟨_, by rw [h2], rfl, h3, h4, fun j hj => ?_, rfl, rfl⟩
    show va_up (va_up cf 41 z.2.2.2.1) 42 z.2.2.2.2 j = cf j
    unfold va_up
    rw [if_neg (by omega), if_neg (by omega)]
  | true =>
    obtain ⟨z, h1, h2, h3, h4⟩ := H (cf 42) (cf 41)
    dsimp only at h1 ⊢
    rw [h1]
    simp only [Option.bind_some]
    refine ⟨_, by rw [h2], rfl, h3, h4, fun j hj => ?_, rfl, rfl⟩
    show va_up (va_up cf 42 z.2.2.2.1) 41 z.2.2.2.2 j = cf j
    unfold va_up
    rw [if_neg (by omega), if_neg (by omega)]
theorem S7_c5 {x : Int32} {c y : Nat} {s : CSt} {z1 z2 : Int64} (H : ∀ sp sb : Nat → Int32, ∃ z : Int32 × Int64 × Int64 × (Nat → Int32) × (Nat → Int32), sp_X7_chance_5 x (nI c) (s.2.1 0) (s.2.1 1) sp (s.1 4) (s.1 9) (s.1 10) sb (s.2.2.1 0) = some z ∧ z.1 = 1 ∧ z.2.1 = z1 ∧ z.2.2.1 = z2) (hy : s.1 10 = nI y) : ∃ s1 : CSt, S7_chance_5 x (nI c) s = some (1, s1) ∧ s1.1 = s.1 ∧ s1.2.1 0 = z1 ∧ s1.2.1 1 = z2 ∧ (∀ j : Nat, j < 41 → s1.2.2.1 j = s.2.2.1 j) ∧ s1.2.2.2.1 = s.2.2.2.1 ∧ s1.2.2.2.2.1 = s.2.2.2.2.1 := by
  obtain ⟨ci, cl, cf, cp, cq, sw, pa⟩ := s
  unfold S7_chance_5
  cases sw with
  | false =>
    obtain ⟨z, h1, h2, h3, h4⟩ := H (cf 41) (cf 42)
    dsimp only at h1 ⊢
    rw [h1]
    simp only [Option.bind_some]
    refine ⟨_, by rw [h2], rfl, h3, h4, fun j hj => ?_, rfl, rfl⟩
    show va_up (va_up cf 41 z.2.2.2.1) 42 z.2.2.2.2 j = cf j
    unfold va_up
    rw [if_neg (by omega), if_neg (by omega)]
  | true =>
    obtain ⟨z, h1, h2, h3, h4⟩ := H (cf 42) (cf 41)
    dsimp only at h1 ⊢
    rw [h1]
    simp only [Option.bind_some]
    refine ⟨_, by rw [h2], rfl, h3, h4, fun j hj => ?_, rfl, rfl⟩
    show va_up (va_up cf 42 z.2.2.2.1) 41 z.2.2.2.2 j = cf j
    unfold va_up
    rw [if_neg (by omega), if_neg (by omega)]
theorem S7_c6 {x : Int32} {c y : Nat} {s : CSt} {z1 z2 : Int64} (H : ∀ sp sb : Nat → Int32, ∃ z : Int32 × Int64 × Int64 × (Nat → Int32) × (Nat → Int32), sp_X7_chance_6 x (nI c) (s.2.1 0) (s.2.1 1) sp (s.1 4) (s.1 9) (s.1 10) sb (s.2.2.1 0) = some z ∧ z.1 = 1 ∧ z.2.1 = z1 ∧ z.2.2.1 = z2) (hy : s.1 10 = nI y) : ∃ s1 : CSt, S7_chance_6 x (nI c) s = some (1, s1) ∧ s1.1 = s.1 ∧ s1.2.1 0 = z1 ∧ s1.2.1 1 = z2 ∧ (∀ j : Nat, j < 41 → s1.2.2.1 j = s.2.2.1 j) ∧ s1.2.2.2.1 = s.2.2.2.1 ∧ s1.2.2.2.2.1 = s.2.2.2.2.1 := by
  obtain ⟨ci, cl, cf, cp, cq, sw, pa⟩ := s
  unfold S7_chance_6
  cases sw with
  | false =>
    obtain ⟨z, h1, h2, h3, h4⟩ := H (cf 41) (cf 42)
    dsimp only at h1 ⊢
    rw [h1]
    simp only [Option.bind_some]
    refine ⟨_, by rw [h2], rfl, h3, h4, fun j hj => ?_, rfl, rfl⟩
    show va_up (va_up cf 41 z.2.2.2.1) 42 z.2.2.2.2 j = cf j
    unfold va_up
    rw [if_neg (by omega), if_neg (by omega)]
  | true =>
    obtain ⟨z, h1, h2, h3, h4⟩ := H (cf 42) (cf 41)
    dsimp only at h1 ⊢
    rw [h1]
    simp only [Option.bind_some]
    refine ⟨_, by rw [h2], rfl, h3, h4, fun j hj => ?_, rfl, rfl⟩
    show va_up (va_up cf 42 z.2.2.2.1) 41 z.2.2.2.2 j = cf j
    unfold va_up
    rw [if_neg (by omega), if_neg (by omega)]
theorem S7_c7 {x : Int32} {c y : Nat} {s : CSt} {z1 z2 : Int64} (H : ∀ sp sb : Nat → Int32, ∃ z : Int32 × Int64 × Int64 × (Nat → Int32) × (Nat → Int32), sp_X7_chance_7 x (nI c) (s.2.1 0) (s.2.1 1) sp (s.1 4) (s.1 9) (s.1 10) sb (s.2.2.1 0) = some z ∧ z.1 = 1 ∧ z.2.1 = z1 ∧ z.2.2.1 = z2) (hy : s.1 10 = nI y) : ∃ s1 : CSt, S7_chance_7 x (nI c) s = some (1, s1) ∧ s1.1 = s.1 ∧ s1.2.1 0 = z1 ∧ s1.2.1 1 = z2 ∧ (∀ j : Nat, j < 41 → s1.2.2.1 j = s.2.2.1 j) ∧ s1.2.2.2.1 = s.2.2.2.1 ∧ s1.2.2.2.2.1 = s.2.2.2.2.1 := by
  obtain ⟨ci, cl, cf, cp, cq, sw, pa⟩ := s
  unfold S7_chance_7
  cases sw with
  | false =>
    obtain ⟨z, h1, h2, h3, h4⟩ := H (cf 41) (cf 42)
    dsimp only at h1 ⊢
    rw [h1]
    simp only [Option.bind_some]
    refine ⟨_, by rw [h2], rfl, h3, h4, fun j hj => ?_, rfl, rfl⟩
    show va_up (va_up cf 41 z.2.2.2.1) 42 z.2.2.2.2 j = cf j
    unfold va_up
    rw [if_neg (by omega), if_neg (by omega)]
  | true =>
    obtain ⟨z, h1, h2, h3, h4⟩ := H (cf 42) (cf 41)
    dsimp only at h1 ⊢
    rw [h1]
    simp only [Option.bind_some]
    refine ⟨_, by rw [h2], rfl, h3, h4, fun j hj => ?_, rfl, rfl⟩
    show va_up (va_up cf 42 z.2.2.2.1) 41 z.2.2.2.2 j = cf j
    unfold va_up
    rw [if_neg (by omega), if_neg (by omega)]
theorem S7_c8 {x : Int32} {c y : Nat} {s : CSt} {z1 z2 : Int64} (H : ∀ sp sb : Nat → Int32, ∃ z : Int32 × Int64 × Int64 × (Nat → Int32) × (Nat → Int32), sp_X7_chance_8 x (nI c) (s.2.1 0) (s.2.1 1) sp (s.1 4) (s.1 9) (s.1 10) sb (s.2.2.1 0) = some z ∧ z.1 = 1 ∧ z.2.1 = z1 ∧ z.2.2.1 = z2) (hy : s.1 10 = nI y) : ∃ s1 : CSt, S7_chance_8 x (nI c) s = some (1, s1) ∧ s1.1 = s.1 ∧ s1.2.1 0 = z1 ∧ s1.2.1 1 = z2 ∧ (∀ j : Nat, j < 41 → s1.2.2.1 j = s.2.2.1 j) ∧ s1.2.2.2.1 = s.2.2.2.1 ∧ s1.2.2.2.2.1 = s.2.2.2.2.1 := by
  obtain ⟨ci, cl, cf, cp, cq, sw, pa⟩ := s
  unfold S7_chance_8
  cases sw with
  | false =>
    obtain ⟨z, h1, h2, h3, h4⟩ := H (cf 41) (cf 42)
    dsimp only at h1 ⊢
    rw [h1]
    simp only [Option.bind_some]
    refine ⟨_, by rw [h2], rfl, h3, h4, fun j hj => ?_, rfl, rfl⟩
    show va_up (va_up cf 41 z.2.2.2.1) 42 z.2.2.2.2 j = cf j
    unfold va_up
    rw [if_neg (by omega), if_neg (by omega)]
  | true =>
    obtain ⟨z, h1, h2, h3, h4⟩ := H (cf 42) (cf 41)
    dsimp only at h1 ⊢
    rw [h1]
    simp only [Option.bind_some]
    refine ⟨_, by rw [h2], rfl, h3, h4, fun j hj => ?_, rfl, rfl⟩
    show va_up (va_up cf 42 z.2.2.2.1) 41 z.2.2.2.2 j = cf j
    unfold va_up
    rw [if_neg (by omega), if_neg (by omega)]
theorem st_chance (p1 p2 p3 : Int32) (s : CSt) (t : MSt) (h : REL s t) : ∃ (r : Int32) (s1 : CSt) (t1 : MSt), S7_chance p1 p2 p3 s = some (r, s1) ∧ S8_chance p1 p2 p3 t = some (r, t1) ∧ REL s1 t1 := by
  obtain ⟨hT, hK, hC, hF, hX⟩ := h
  have bad : (sp_X8_in p1 1 9 = 0 ∨ sp_X8_in p2 0 8 = 0 ∨ sp_X8_in p3 0 10 = 0) → S8_chance p1 p2 p3 t = some (-2, (t.1, va_up (va_up t.2.1 0 (t.2.1 0)) 1 (t.2.1 1), va_up t.2.2 6 (upd (t.2.2 6) 0 (t.2.2 6 0 + 1)))) → ∃ (r : Int32) (s1 : CSt) (t1 : MSt), S7_chance p1 p2 p3 s = some (r, s1) ∧ S8_chance p1 p2 p3 t = some (r, t1) ∧ REL s1 t1 := by
    intro hb h8
    obtain ⟨s1, e1, e2, e3⟩ := S7_cbad (s := s) hb
    obtain ⟨a1, a2⟩ := s1
    simp only at e2 e3
    subst e2; subst e3
    exact ⟨_, _, _, e1, h8, hT, hK, hC.bad rfl rfl rfl rfl rfl rfl, hF, hX⟩
  by_cases c0 : sp_X8_in p1 1 9 = 0
  · exact bad (Or.inl c0) (by unfold S8_chance sp_X8_chance; rw [if_pos c0]; rfl)
  by_cases c1 : sp_X8_in p2 0 8 = 0
  · exact bad (Or.inr (Or.inl c1)) (by unfold S8_chance sp_X8_chance; rw [if_neg c0, if_pos c1]; rfl)
  by_cases c2 : sp_X8_in p3 0 10 = 0
  · exact bad (Or.inr (Or.inr c2)) (by unfold S8_chance sp_X8_chance; rw [if_neg c0, if_neg c1, if_pos c2]; rfl)
  rw [S7_cgood c0 c1 c2]
  obtain ⟨m, _, hm, rfl⟩ := in_nat (lo := 0) (hi := 8) c1 (by omega) (by omega)
  obtain ⟨c, _, hc, rfl⟩ := in_nat (lo := 0) (hi := 10) c2 (by omega) (by omega)
  obtain ⟨y, hy, y1, y2⟩ := hT.year
  obtain ⟨f0, hf0⟩ : ∃ f0 : Nat → Nat → Nat, ∀ k j, f0 k j = plc (sp_X8_behind (s.1 4) (nI j + -9) 0 (nI (y + k))) := ⟨_, fun _ _ => rfl⟩
  obtain ⟨f1, hf1⟩ : ∃ f1 : Nat → Nat → Nat, ∀ k j, f1 k j = plc (sp_X6_offBehind (nI (y + k)) (nI j + -9) (s.1 4) (s.2.2.1 0)) := ⟨_, fun _ _ => rfl⟩
  obtain ⟨g, hg⟩ : ∃ g : Nat → Nat, ∀ j, g j = if sp_X8_size (nI j + -9) < p1 then 0 else 1 := ⟨_, fun _ => rfl⟩
  have hg1 : ∀ j, g j ≤ 1 := fun j => by rw [hg]; split <;> omega
  obtain ⟨o1, _, o3⟩ := plc_of hT.boff
  obtain ⟨A, A1, A2⟩ := all_eq hm
  obtain ⟨B, B1, B2⟩ := ways_eq (x := p1) (m := m) hf0 hf1 (fun j _ => hg j) hy hc hT.bpulls hm o1 hT.pulls hT.kind.symm (hT.off.symm.trans o3) y2
  have fin : ∀ (s1 : CSt) (r' : Int64 × Int64) (z1 z2 : Int64), S7_chance_ok p1 (nI m) (nI c) s = some (1, s1) → s1.1 = s.1 → s1.2.1 0 = z1 → s1.2.1 1 = z2 → (∀ j : Nat, j < 41 → s1.2.2.1 j = s.2.2.1 j) → s1.2.2.2.1 = s.2.2.2.1 → s1.2.2.2.2.1 = s.2.2.2.2.1 →
      lp_X8_chance_209 FU (lN (VV f0 f1 c g m 0 (plc (s.1 9)))) (lN (10 ^ m)) = some r' → ¬ r'.1 = 0 → lN (VV f0 f1 c g m 0 (plc (s.1 9))) / r'.1 = z1 → lN (10 ^ m) / r'.1 = z2 → ∃ (r : Int32) (s1 : CSt) (t1 : MSt), S7_chance_ok p1 (nI m) (nI c) s = some (r, s1) ∧ S8_chance p1 (nI m) (nI c) t = some (r, t1) ∧ REL s1 t1 := by
    intro s1 r' z1 z2 h7 e1 e2 e3 e4 e5 e6 g1 g2 g3 g4
    have h8 : S8_chance p1 (nI m) (nI c) t = some (1, (t.1, va_up (va_up t.2.1 0 z1) 1 z2, va_up t.2.2 6 (t.2.2 6))) := by
      unfold S8_chance sp_X8_chance
      rw [if_neg c0, if_neg c1, if_neg c2, A1, B1]
      simp only [Option.bind_some]
      rw [A2, B2, g1]
      simp only [Option.bind_some]
      rw [gd_t g2, gd_t g2, g3, g4]
      rfl
    refine ⟨_, _, _, h7, h8, ?_, ?_, ?_, ⟨e2, e3⟩, ?_⟩
    · unfold TT
      rw [e1, e5, e6, e4 0 (by omega), e4 1 (by omega), e4 2 (by omega), e4 3 (by omega), e4 4 (by omega), e4 5 (by omega), e4 6 (by omega)]
      exact hT
    · unfold KR
      rw [e1, e5, e6, e4 14 (by omega), e4 15 (by omega), e4 16 (by omega), e4 17 (by omega), e4 18 (by omega), e4 19 (by omega), e4 20 (by omega), e4 21 (by omega), e4 22 (by omega), e4 23 (by omega), e4 24 (by omega), e4 25 (by omega), e4 26 (by omega), e4 27 (by omega)]
      exact hK
    · unfold CR
      rw [e1]
      exact hC
    · unfold XR
      rw [e1, e4 28 (by omega)]
      exact hX
  have hx : ¬ sp_X2_within p1 1 9 = 0 := c0
  by_cases m0 : m = 0
  · subst m0
    obtain ⟨z, q, r', a1, a2, a3, a4, a5, a6⟩ := coreC_0 (ab := s.2.1 0) (bl := s.2.1 1) (sp := s.2.2.1 41) (sb := s.2.2.1 42) hf0 hf1 (fun j _ => hg j) hg1 hy hc hT.boff hT.bpulls hx
    have H : ∀ sp sb : Nat → Int32, ∃ z' : Int32 × Int64 × Int64 × (Nat → Int32), sp_X7_chance_0 p1 (nI c) (s.2.1 0) (s.2.1 1) sp (s.1 9) = some z' ∧ z'.1 = 1 ∧ z'.2.1 = z.2.1 ∧ z'.2.2.1 = z.2.2.1 := fun sp sb => by
      obtain ⟨z', q', r'', b1, b2, b3, b4, b5, b6⟩ := coreC_0 (ab := s.2.1 0) (bl := s.2.1 1) (sp := sp) (sb := sb) hf0 hf1 (fun j _ => hg j) hg1 hy hc hT.boff hT.bpulls hx
      obtain rfl : r' = r'' := Option.some.inj (a2.symm.trans b2)
      exact ⟨z', by exact b1, b6, b4.symm.trans a4, b5.symm.trans a5⟩
    obtain ⟨s1, h7, e1, e2, e3, e4, e5, e6⟩ := S7_c0 H y1
    refine fin s1 r' z.2.1 z.2.2.1 ?_ e1 e2 e3 e4 e5 e6 a2 a3 a4 a5
    unfold S7_chance_ok
    rw [if_pos (show nI 0 = 0 from rfl)]
    exact h7
  by_cases m1 : m = 1
  · subst m1
    obtain ⟨z, q, r', a1, a2, a3, a4, a5, a6⟩ := coreC_1 (ab := s.2.1 0) (bl := s.2.1 1) (sp := s.2.2.1 41) (sb := s.2.2.1 42) hf0 hf1 (fun j _ => hg j) hg1 hy hc hT.boff hT.bpulls hx
    have H : ∀ sp sb : Nat → Int32, ∃ z' : Int32 × Int64 × Int64 × (Nat → Int32) × (Nat → Int32), sp_X7_chance_1 p1 (nI c) (s.2.1 0) (s.2.1 1) sp (s.1 4) (s.1 9) (s.1 10) sb (s.2.2.1 0) = some z' ∧ z'.1 = 1 ∧ z'.2.1 = z.2.1 ∧ z'.2.2.1 = z.2.2.1 := fun sp sb => by
      obtain ⟨z', q', r'', b1, b2, b3, b4, b5, b6⟩ := coreC_1 (ab := s.2.1 0) (bl := s.2.1 1) (sp := sp) (sb := sb) hf0 hf1 (fun j _ => hg j) hg1 hy hc hT.boff hT.bpulls hx
      obtain rfl : r' = r'' := Option.some.inj (a2.symm.trans b2)
      exact ⟨z', by rw [y1]; exact b1, b6, b4.symm.trans a4, b5.symm.trans a5⟩
    obtain ⟨s1, h7, e1, e2, e3, e4, e5, e6⟩ := S7_c1 H y1
    refine fin s1 r' z.2.1 z.2.2.1 ?_ e1 e2 e3 e4 e5 e6 a2 a3 a4 a5
    unfold S7_chance_ok
    rw [if_neg (show ¬ nI 1 = 0 from by decide), if_pos (show nI 1 = 1 from rfl)]
    exact h7
  by_cases m2 : m = 2
  · subst m2
    obtain ⟨z, q, r', a1, a2, a3, a4, a5, a6⟩ := coreC_2 (ab := s.2.1 0) (bl := s.2.1 1) (sp := s.2.2.1 41) (sb := s.2.2.1 42) hf0 hf1 (fun j _ => hg j) hg1 hy hc hT.boff hT.bpulls hx
    have H : ∀ sp sb : Nat → Int32, ∃ z' : Int32 × Int64 × Int64 × (Nat → Int32) × (Nat → Int32), sp_X7_chance_2 p1 (nI c) (s.2.1 0) (s.2.1 1) sp (s.1 4) (s.1 9) (s.1 10) sb (s.2.2.1 0) = some z' ∧ z'.1 = 1 ∧ z'.2.1 = z.2.1 ∧ z'.2.2.1 = z.2.2.1 := fun sp sb => by
      obtain ⟨z', q', r'', b1, b2, b3, b4, b5, b6⟩ := coreC_2 (ab := s.2.1 0) (bl := s.2.1 1) (sp := sp) (sb := sb) hf0 hf1 (fun j _ => hg j) hg1 hy hc hT.boff hT.bpulls hx
      obtain rfl : r' = r'' := Option.some.inj (a2.symm.trans b2)
      exact ⟨z', by rw [y1]; exact b1, b6, b4.symm.trans a4, b5.symm.trans a5⟩
    obtain ⟨s1, h7, e1, e2, e3, e4, e5, e6⟩ := S7_c2 H y1
    refine fin s1 r' z.2.1 z.2.2.1 ?_ e1 e2 e3 e4 e5 e6 a2 a3 a4 a5
    unfold S7_chance_ok
    rw [if_neg (show ¬ nI 2 = 0 from by decide), if_neg (show ¬ nI 2 = 1 from by decide), if_pos (show nI 2 = 2 from rfl)]
    exact h7
  by_cases m3 : m = 3
  · subst m3
    obtain ⟨z, q, r', a1, a2, a3, a4, a5, a6⟩ := coreC_3 (ab := s.2.1 0) (bl := s.2.1 1) (sp := s.2.2.1 41) (sb := s.2.2.1 42) hf0 hf1 (fun j _ => hg j) hg1 hy hc hT.boff hT.bpulls hx
    have H : ∀ sp sb : Nat → Int32, ∃ z' : Int32 × Int64 × Int64 × (Nat → Int32) × (Nat → Int32), sp_X7_chance_3 p1 (nI c) (s.2.1 0) (s.2.1 1) sp (s.1 4) (s.1 9) (s.1 10) sb (s.2.2.1 0) = some z' ∧ z'.1 = 1 ∧ z'.2.1 = z.2.1 ∧ z'.2.2.1 = z.2.2.1 := fun sp sb => by
      obtain ⟨z', q', r'', b1, b2, b3, b4, b5, b6⟩ := coreC_3 (ab := s.2.1 0) (bl := s.2.1 1) (sp := sp) (sb := sb) hf0 hf1 (fun j _ => hg j) hg1 hy hc hT.boff hT.bpulls hx
      obtain rfl : r' = r'' := Option.some.inj (a2.symm.trans b2)
      exact ⟨z', by rw [y1]; exact b1, b6, b4.symm.trans a4, b5.symm.trans a5⟩
    obtain ⟨s1, h7, e1, e2, e3, e4, e5, e6⟩ := S7_c3 H y1
    refine fin s1 r' z.2.1 z.2.2.1 ?_ e1 e2 e3 e4 e5 e6 a2 a3 a4 a5
    unfold S7_chance_ok
    rw [if_neg (show ¬ nI 3 = 0 from by decide), if_neg (show ¬ nI 3 = 1 from by decide), if_neg (show ¬ nI 3 = 2 from by decide), if_pos (show nI 3 = 3 from rfl)]
    exact h7
  by_cases m4 : m = 4
  · subst m4
    obtain ⟨z, q, r', a1, a2, a3, a4, a5, a6⟩ := coreC_4 (ab := s.2.1 0) (bl := s.2.1 1) (sp := s.2.2.1 41) (sb := s.2.2.1 42) hf0 hf1 (fun j _ => hg j) hg1 hy hc hT.boff hT.bpulls hx
    have H : ∀ sp sb : Nat → Int32, ∃ z' : Int32 × Int64 × Int64 × (Nat → Int32) × (Nat → Int32), sp_X7_chance_4 p1 (nI c) (s.2.1 0) (s.2.1 1) sp (s.1 4) (s.1 9) (s.1 10) sb (s.2.2.1 0) = some z' ∧ z'.1 = 1 ∧ z'.2.1 = z.2.1 ∧ z'.2.2.1 = z.2.2.1 := fun sp sb => by
      obtain ⟨z', q', r'', b1, b2, b3, b4, b5, b6⟩ := coreC_4 (ab := s.2.1 0) (bl := s.2.1 1) (sp := sp) (sb := sb) hf0 hf1 (fun j _ => hg j) hg1 hy hc hT.boff hT.bpulls hx
      obtain rfl : r' = r'' := Option.some.inj (a2.symm.trans b2)
      exact ⟨z', by rw [y1]; exact b1, b6, b4.symm.trans a4, b5.symm.trans a5⟩
    obtain ⟨s1, h7, e1, e2, e3, e4, e5, e6⟩ := S7_c4 H y1
    refine fin s1 r' z.2.1 z.2.2.1 ?_ e1 e2 e3 e4 e5 e6 a2 a3 a4 a5
    unfold S7_chance_ok
    rw [if_neg (show ¬ nI 4 = 0 from by decide), if_neg (show ¬ nI 4 = 1 from by decide), if_neg (show ¬ nI 4 = 2 from by decide), if_neg (show ¬ nI 4 = 3 from by decide), if_pos (show nI 4 = 4 from rfl)]
    exact h7
  by_cases m5 : m = 5
  · subst m5
    obtain ⟨z, q, r', a1, a2, a3, a4, a5, a6⟩ := coreC_5 (ab := s.2.1 0) (bl := s.2.1 1) (sp := s.2.2.1 41) (sb := s.2.2.1 42) hf0 hf1 (fun j _ => hg j) hg1 hy hc hT.boff hT.bpulls hx
    have H : ∀ sp sb : Nat → Int32, ∃ z' : Int32 × Int64 × Int64 × (Nat → Int32) × (Nat → Int32), sp_X7_chance_5 p1 (nI c) (s.2.1 0) (s.2.1 1) sp (s.1 4) (s.1 9) (s.1 10) sb (s.2.2.1 0) = some z' ∧ z'.1 = 1 ∧ z'.2.1 = z.2.1 ∧ z'.2.2.1 = z.2.2.1 := fun sp sb => by
      obtain ⟨z', q', r'', b1, b2, b3, b4, b5, b6⟩ := coreC_5 (ab := s.2.1 0) (bl := s.2.1 1) (sp := sp) (sb := sb) hf0 hf1 (fun j _ => hg j) hg1 hy hc hT.boff hT.bpulls hx
      obtain rfl : r' = r'' := Option.some.inj (a2.symm.trans b2)
      exact ⟨z', by rw [y1]; exact b1, b6, b4.symm.trans a4, b5.symm.trans a5⟩
    obtain ⟨s1, h7, e1, e2, e3, e4, e5, e6⟩ := S7_c5 H y1
    refine fin s1 r' z.2.1 z.2.2.1 ?_ e1 e2 e3 e4 e5 e6 a2 a3 a4 a5
    unfold S7_chance_ok
    rw [if_neg (show ¬ nI 5 = 0 from by decide), if_neg (show ¬ nI 5 = 1 from by decide), if_neg (show ¬ nI 5 = 2 from by decide), if_neg (show ¬ nI 5 = 3 from by decide), if_neg (show ¬ nI 5 = 4 from by decide), if_pos (show nI 5 = 5 from rfl)]
    exact h7
  by_cases m6 : m = 6
  · subst m6
    obtain ⟨z, q, r', a1, a2, a3, a4, a5, a6⟩ := coreC_6 (ab := s.2.1 0) (bl := s.2.1 1) (sp := s.2.2.1 41) (sb := s.2.2.1 42) hf0 hf1 (fun j _ => hg j) hg1 hy hc hT.boff hT.bpulls hx
    have H : ∀ sp sb : Nat → Int32, ∃ z' : Int32 × Int64 × Int64 × (Nat → Int32) × (Nat → Int32), sp_X7_chance_6 p1 (nI c) (s.2.1 0) (s.2.1 1) sp (s.1 4) (s.1 9) (s.1 10) sb (s.2.2.1 0) = some z' ∧ z'.1 = 1 ∧ z'.2.1 = z.2.1 ∧ z'.2.2.1 = z.2.2.1 := fun sp sb => by
      obtain ⟨z', q', r'', b1, b2, b3, b4, b5, b6⟩ := coreC_6 (ab := s.2.1 0) (bl := s.2.1 1) (sp := sp) (sb := sb) hf0 hf1 (fun j _ => hg j) hg1 hy hc hT.boff hT.bpulls hx
      obtain rfl : r' = r'' := Option.some.inj (a2.symm.trans b2)
      exact ⟨z', by rw [y1]; exact b1, b6, b4.symm.trans a4, b5.symm.trans a5⟩
    obtain ⟨s1, h7, e1, e2, e3, e4, e5, e6⟩ := S7_c6 H y1
    refine fin s1 r' z.2.1 z.2.2.1 ?_ e1 e2 e3 e4 e5 e6 a2 a3 a4 a5
    unfold S7_chance_ok
    rw [if_neg (show ¬ nI 6 = 0 from by decide), if_neg (show ¬ nI 6 = 1 from by decide), if_neg (show ¬ nI 6 = 2 from by decide), if_neg (show ¬ nI 6 = 3 from by decide), if_neg (show ¬ nI 6 = 4 from by decide), if_neg (show ¬ nI 6 = 5 from by decide), if_pos (show nI 6 = 6 from rfl)]
    exact h7
  by_cases m7 : m = 7
  · subst m7
    obtain ⟨z, q, r', a1, a2, a3, a4, a5, a6⟩ := coreC_7 (ab := s.2.1 0) (bl := s.2.1 1) (sp := s.2.2.1 41) (sb := s.2.2.1 42) hf0 hf1 (fun j _ => hg j) hg1 hy hc hT.boff hT.bpulls hx
    have H : ∀ sp sb : Nat → Int32, ∃ z' : Int32 × Int64 × Int64 × (Nat → Int32) × (Nat → Int32), sp_X7_chance_7 p1 (nI c) (s.2.1 0) (s.2.1 1) sp (s.1 4) (s.1 9) (s.1 10) sb (s.2.2.1 0) = some z' ∧ z'.1 = 1 ∧ z'.2.1 = z.2.1 ∧ z'.2.2.1 = z.2.2.1 := fun sp sb => by
      obtain ⟨z', q', r'', b1, b2, b3, b4, b5, b6⟩ := coreC_7 (ab := s.2.1 0) (bl := s.2.1 1) (sp := sp) (sb := sb) hf0 hf1 (fun j _ => hg j) hg1 hy hc hT.boff hT.bpulls hx
      obtain rfl : r' = r'' := Option.some.inj (a2.symm.trans b2)
      exact ⟨z', by rw [y1]; exact b1, b6, b4.symm.trans a4, b5.symm.trans a5⟩
    obtain ⟨s1, h7, e1, e2, e3, e4, e5, e6⟩ := S7_c7 H y1
    refine fin s1 r' z.2.1 z.2.2.1 ?_ e1 e2 e3 e4 e5 e6 a2 a3 a4 a5
    unfold S7_chance_ok
    rw [if_neg (show ¬ nI 7 = 0 from by decide), if_neg (show ¬ nI 7 = 1 from by decide), if_neg (show ¬ nI 7 = 2 from by decide), if_neg (show ¬ nI 7 = 3 from by decide), if_neg (show ¬ nI 7 = 4 from by decide), if_neg (show ¬ nI 7 = 5 from by decide), if_neg (show ¬ nI 7 = 6 from by decide), if_pos (show nI 7 = 7 from rfl)]
    exact h7
  by_cases m8 : m = 8
  · subst m8
    obtain ⟨z, q, r', a1, a2, a3, a4, a5, a6⟩ := coreC_8 (ab := s.2.1 0) (bl := s.2.1 1) (sp := s.2.2.1 41) (sb := s.2.2.1 42) hf0 hf1 (fun j _ => hg j) hg1 hy hc hT.boff hT.bpulls hx
    have H : ∀ sp sb : Nat → Int32, ∃ z' : Int32 × Int64 × Int64 × (Nat → Int32) × (Nat → Int32), sp_X7_chance_8 p1 (nI c) (s.2.1 0) (s.2.1 1) sp (s.1 4) (s.1 9) (s.1 10) sb (s.2.2.1 0) = some z' ∧ z'.1 = 1 ∧ z'.2.1 = z.2.1 ∧ z'.2.2.1 = z.2.2.1 := fun sp sb => by
      obtain ⟨z', q', r'', b1, b2, b3, b4, b5, b6⟩ := coreC_8 (ab := s.2.1 0) (bl := s.2.1 1) (sp := sp) (sb := sb) hf0 hf1 (fun j _ => hg j) hg1 hy hc hT.boff hT.bpulls hx
      obtain rfl : r' = r'' := Option.some.inj (a2.symm.trans b2)
      exact ⟨z', by rw [y1]; exact b1, b6, b4.symm.trans a4, b5.symm.trans a5⟩
    obtain ⟨s1, h7, e1, e2, e3, e4, e5, e6⟩ := S7_c8 H y1
    refine fin s1 r' z.2.1 z.2.2.1 ?_ e1 e2 e3 e4 e5 e6 a2 a3 a4 a5
    unfold S7_chance_ok
    rw [if_neg (show ¬ nI 8 = 0 from by decide), if_neg (show ¬ nI 8 = 1 from by decide), if_neg (show ¬ nI 8 = 2 from by decide), if_neg (show ¬ nI 8 = 3 from by decide), if_neg (show ¬ nI 8 = 4 from by decide), if_neg (show ¬ nI 8 = 5 from by decide), if_neg (show ¬ nI 8 = 6 from by decide), if_neg (show ¬ nI 8 = 7 from by decide), if_pos (show nI 8 = 8 from rfl)]
    exact h7
  omega
