/-! pure: numbers, rows, leaves -/
theorem ti_bm {z : Int} (h1 : -2147483648 ≤ z) (h2 : z < 2147483648) : z.bmod (2 ^ 32) = z := Int.bmod_eq_of_le (by omega) (by omega)
theorem ti_add {a b : Int32} (h1 : -2147483648 ≤ a.toInt + b.toInt) (h2 : a.toInt + b.toInt < 2147483648) : (a + b).toInt = a.toInt + b.toInt := by
  rw [Int32.toInt_add, ti_bm h1 h2]
theorem ti_sub {a b : Int32} (h1 : -2147483648 ≤ a.toInt - b.toInt) (h2 : a.toInt - b.toInt < 2147483648) : (a - b).toInt = a.toInt - b.toInt := by
  rw [Int32.toInt_sub, ti_bm h1 h2]
theorem ti_neg {a : Int32} (h : -2147483648 < a.toInt) : (-a).toInt = -a.toInt := by
  rw [Int32.toInt_neg, ti_bm (by have := Int32.toInt_lt a; omega) (by omega)]
theorem ti_0 : (0 : Int32).toInt = 0 := by decide
theorem ti_1 : (1 : Int32).toInt = 1 := by decide
theorem ti_2 : (2 : Int32).toInt = 2 := by decide
theorem ti_3 : (3 : Int32).toInt = 3 := by decide
theorem ti_9 : (9 : Int32).toInt = 9 := by decide
theorem ti_m9 : (-9 : Int32).toInt = -9 := by decide
theorem ti_m3 : (-3 : Int32).toInt = -3 := by decide
/-- a number from -9 to 9 -/
def bt (x : Int32) : Prop := -9 ≤ x.toInt ∧ x.toInt ≤ 9
theorem bt_0 : bt 0 := by unfold bt; rw [ti_0]; omega
theorem cl_lit (n : Nat) (h : n < 2 ^ 31) : (nI n).toNatClampNeg = n := nI_clamp h
theorem gi_n {α : Type} {a n : Nat} {k : Option α} (h : a < n) (hn : n < 2 ^ 31) : gi (nI a) n k = k := gi_t (vp_in_nI h hn)
theorem at_n {a n : Nat} {f : Nat → Int32} (h : a < n) (hn : n < 2 ^ 31) : sp_X2_at n (nI a) f = f a := by
  unfold sp_X2_at
  rw [if_neg (nI_pos (by omega)), if_neg (show ¬ Int32.ofNat n ≤ nI a from nI_ge h hn), nI_clamp (by omega)]
theorem put_n {a n : Nat} {v : Int32} {f : Nat → Int32} (h : a < n) (hn : n < 2 ^ 31) : sp_X2_put n (nI a) v f = upd f a v := by
  unfold sp_X2_put
  rw [if_neg (nI_pos (by omega)), if_neg (show ¬ Int32.ofNat n ≤ nI a from nI_ge h hn), nI_clamp (by omega)]
theorem upd_s {f : Nat → Int32} {k : Nat} {x : Int32} : upd f k x k = x := if_pos rfl
theorem upd_o {f : Nat → Int32} {k j : Nat} {x : Int32} (h : j ≠ k) : upd f k x j = f j := if_neg h
theorem in_eq (a b c : Int32) : sp_X2_within a b c = sp_X8_in a b c := rfl
theorem in_nat {x : Int32} {lo hi : Nat} (h : ¬ sp_X8_in x (nI lo) (nI hi) = 0) (hh : hi < 2 ^ 31) (hl : lo ≤ hi) : ∃ n : Nat, lo ≤ n ∧ n ≤ hi ∧ x = nI n := by
  unfold sp_X8_in at h
  by_cases h1 : x < nI lo
  · rw [if_pos h1] at h; exact absurd rfl h
  · rw [if_neg h1] at h
    by_cases h2 : nI hi < x
    · rw [if_pos h2] at h; exact absurd rfl h
    · have h3 : ¬ x < 0 := by
        rw [Int32.lt_iff_toInt_lt] at h1 ⊢
        rw [nI_toInt (by omega)] at h1
        rw [ti_0]; omega
      obtain ⟨j, hj, rfl⟩ := nI_of h3
      rw [nI_ltI hj (by omega)] at h1
      rw [nI_ltI hh hj] at h2
      exact ⟨j, by omega, by omega, rfl⟩
theorem in_yes {lo hi n : Nat} (h1 : lo ≤ n) (h2 : n ≤ hi) (hh : hi < 2 ^ 31) : sp_X8_in (nI n) (nI lo) (nI hi) = 1 := by
  unfold sp_X8_in
  rw [if_neg (nI_nlt h1 (by omega)), if_neg (nI_nlt h2 hh)]
theorem in_tilt {x : Int32} (h : ¬ sp_X8_in x (-9) 9 = 0) : bt x := by
  unfold sp_X8_in at h
  by_cases h1 : x < -9
  · rw [if_pos h1] at h; exact absurd rfl h
  · rw [if_neg h1] at h
    by_cases h2 : 9 < x
    · rw [if_pos h2] at h; exact absurd rfl h
    · rw [Int32.lt_iff_toInt_lt, ti_m9] at h1
      rw [Int32.lt_iff_toInt_lt, ti_9] at h2
      exact ⟨by omega, by omega⟩
theorem j_abs_size (x : Int32) : j_abs x = sp_X8_size x := by unfold j_abs sp_X8_size; rw [Int32.zero_sub]
theorem kept9 (v : Int32) : sp_X0_kept v 9 = sp_X8_within v 9 := by
  unfold sp_X0_kept sp_X8_within j_max j_min
  simp only [Int32.lt_iff_toInt_lt, Int32.le_iff_toInt_le, ti_9, ti_m9]
  by_cases h1 : v.toInt < 9
  · simp only [h1, if_true]
    rw [if_pos (show v.toInt ≤ 9 by omega)]
    by_cases h2 : -9 < v.toInt
    · rw [if_pos h2, if_pos (show -9 ≤ v.toInt by omega)]
    · rw [if_neg h2]
      by_cases h3 : -9 ≤ v.toInt
      · rw [if_pos h3]; exact Int32.toInt_inj.1 (by rw [ti_m9]; omega)
      · rw [if_neg h3]
  · simp only [h1, if_false, ti_9]
    rw [if_pos (show (-9 : Int) < 9 by omega)]
    by_cases h2 : v.toInt ≤ 9
    · rw [if_pos h2, if_pos (show -9 ≤ v.toInt by omega)]; exact Int32.toInt_inj.1 (by rw [ti_9]; omega)
    · rw [if_neg h2]
theorem kept3 (v : Int32) : sp_X0_kept v 3 = sp_X8_within v 3 := by
  unfold sp_X0_kept sp_X8_within j_max j_min
  simp only [Int32.lt_iff_toInt_lt, Int32.le_iff_toInt_le, ti_3, ti_m3]
  by_cases h1 : v.toInt < 3
  · simp only [h1, if_true]
    rw [if_pos (show v.toInt ≤ 3 by omega)]
    by_cases h2 : -3 < v.toInt
    · rw [if_pos h2, if_pos (show -3 ≤ v.toInt by omega)]
    · rw [if_neg h2]
      by_cases h3 : -3 ≤ v.toInt
      · rw [if_pos h3]; exact Int32.toInt_inj.1 (by rw [ti_m3]; omega)
      · rw [if_neg h3]
  · simp only [h1, if_false, ti_3]
    rw [if_pos (show (-3 : Int) < 3 by omega)]
    by_cases h2 : v.toInt ≤ 3
    · rw [if_pos h2, if_pos (show -3 ≤ v.toInt by omega)]; exact Int32.toInt_inj.1 (by rw [ti_3]; omega)
    · rw [if_neg h2]
theorem nearer_eq (b p : Int32) : sp_X0_nearer b p = sp_X8_nearer b p := by
  unfold sp_X0_nearer sp_X8_nearer
  by_cases h : b = p
  · subst h; rw [if_pos rfl, if_pos (Int32.le_refl b), if_pos (Int32.le_refl b)]
  · rw [if_neg h]
    by_cases h1 : p ≤ b
    · rw [if_pos h1, if_pos h1, if_neg (fun h2 => h (Int32.le_antisymm h2 h1))]
    · rw [if_neg h1, if_neg h1]
/-- a year's evenness -/
def yr (y : Int32) : Prop := y - y / 2 * 2 = 0 ∨ y - y / 2 * 2 = 1
theorem yr_n {n : Nat} (h : n < 2 ^ 31) : yr (nI n) := by
  unfold yr
  have e : nI n - nI n / 2 * 2 = nI (n % 2) := pk_rem (d := 2) h (by omega) (by omega)
  rw [e]
  have : n % 2 < 2 := Nat.mod_lt _ (by omega)
  have h2 : n % 2 = 0 ∨ n % 2 = 1 := by omega
  rcases h2 with h2 | h2 <;> rw [h2]
  · exact Or.inl rfl
  · exact Or.inr rfl
theorem beh_eq {k y b p : Int32} (hy : yr y) : sp_X0_behind k y b p = sp_X8_behind k b p y := by
  unfold sp_X0_behind sp_X8_behind lt_
  rcases hy with e | e <;> rw [e] <;> simp only [if_pos, if_neg, kept9, kept3, nearer_eq, show ¬ (1 : Int32) = 0 from by decide, show ¬ (0 : Int32) = 1 from by decide, if_true, if_false]
theorem bt_within9 (v : Int32) : bt (sp_X8_within v 9) := by
  unfold sp_X8_within bt
  simp only [Int32.le_iff_toInt_le, ti_9, ti_m9]
  by_cases h : v.toInt ≤ 9
  · rw [if_pos h]
    by_cases h2 : -9 ≤ v.toInt
    · rw [if_pos h2]; omega
    · rw [if_neg h2, ti_m9]; omega
  · rw [if_neg h, ti_9]; omega
theorem bt_within3 (v : Int32) : bt (sp_X8_within v 3) := by
  unfold sp_X8_within bt
  simp only [Int32.le_iff_toInt_le, ti_3, ti_m3]
  by_cases h : v.toInt ≤ 3
  · rw [if_pos h]
    by_cases h2 : -3 ≤ v.toInt
    · rw [if_pos h2]; omega
    · rw [if_neg h2, ti_m3]; omega
  · rw [if_neg h, ti_3]; omega
theorem bt_nearer {b p : Int32} (hb : bt b) (hp : bt p) : bt (sp_X8_nearer b p) := by
  unfold sp_X8_nearer
  simp only [Int32.le_iff_toInt_le]
  obtain ⟨b1, b2⟩ := hb
  obtain ⟨p1, p2⟩ := hp
  by_cases h : p.toInt ≤ b.toInt
  · rw [if_pos h]
    by_cases h2 : b.toInt ≤ p.toInt
    · rw [if_pos h2]; exact ⟨b1, b2⟩
    · rw [if_neg h2]; unfold bt; rw [ti_sub (by rw [ti_1]; omega) (by rw [ti_1]; omega), ti_1]; omega
  · rw [if_neg h]; unfold bt; rw [ti_add (by rw [ti_1]; omega) (by rw [ti_1]; omega), ti_1]; omega
theorem bt_beh {k y b p : Int32} (hb : bt b) (hp : bt p) : bt (sp_X8_behind k b p y) := by
  unfold sp_X8_behind
  simp only [lt_]
  by_cases k1 : k = 1
  · rw [if_pos k1]; exact bt_within9 _
  rw [if_neg k1]
  by_cases k2 : k = 2
  · rw [if_pos k2]; exact bt_nearer hb hp
  rw [if_neg k2]
  by_cases k3 : k = 3
  · rw [if_pos k3]; exact bt_nearer (bt_nearer hb hp) hp
  rw [if_neg k3]
  by_cases k4 : k = 4
  · rw [if_pos k4]; exact bt_within9 _
  rw [if_neg k4]
  by_cases k5 : k = 5
  · rw [if_pos k5]; exact bt_within3 _
  rw [if_neg k5]
  exact hb
theorem heavy_eq (k : Int32) : sp_X4_heavy k = sp_X8_heavy k := rfl
theorem le_lt1 {x a b : Int32} (h : b.toInt = a.toInt + 1) : (b ≤ x) ↔ (a < x) := by
  rw [Int32.le_iff_toInt_le, Int32.lt_iff_toInt_lt]; omega
theorem ti_sz {a : Int32} (h : bt a) : (sp_X8_size a).toInt = if 0 ≤ a.toInt then a.toInt else -a.toInt := by
  unfold sp_X8_size
  simp only [Int32.le_iff_toInt_le, ti_0]
  by_cases h1 : 0 ≤ a.toInt
  · rw [if_pos h1, if_pos h1]
  · rw [if_neg h1, if_neg h1, ti_neg (by have := h.1; omega)]
theorem st_hut {a : Int32} (h : bt a) {x : Int32} : (if a < -6 then (0 : Int32) else if 6 < a then 0 else x) = if 7 ≤ sp_X8_size a then 0 else x := by
  have e := ti_sz h
  simp only [Int32.le_iff_toInt_le, Int32.lt_iff_toInt_lt, show (-6 : Int32).toInt = -6 from by decide, show (6 : Int32).toInt = 6 from by decide, show (7 : Int32).toInt = 7 from by decide, e]
  by_cases h1 : a.toInt < -6
  · rw [if_pos h1, if_pos (by split <;> omega)]
  · rw [if_neg h1]
    by_cases h2 : 6 < a.toInt
    · rw [if_pos h2, if_pos (by split <;> omega)]
    · rw [if_neg h2, if_neg (by split <;> omega)]
theorem stands_eq {k a u l : Int32} (h : bt a) : sp_X4_stands k a u l = sp_X8_stands k a u l := by
  unfold sp_X4_stands sp_X8_stands
  simp only [j_abs_size, st_hut h, le_lt1 (show (3 : Int32).toInt = (2 : Int32).toInt + 1 from by decide), le_lt1 (show (9 : Int32).toInt = (8 : Int32).toInt + 1 from by decide), le_lt1 (show (2 : Int32).toInt = (1 : Int32).toInt + 1 from by decide), le_lt1 (show (4 : Int32).toInt = (3 : Int32).toInt + 1 from by decide), le_lt1 (show (6 : Int32).toInt = (5 : Int32).toInt + 1 from by decide)]
theorem stands01 (k a u l : Int32) : sp_X8_stands k a u l = 0 ∨ sp_X8_stands k a u l = 1 := by
  unfold sp_X8_stands
  repeat' split
  all_goals first | exact Or.inl rfl | exact Or.inr rfl
theorem has_eq (x k : Int32) : sp_X7_has x k = sp_X8_has x k := by
  unfold sp_X7_has sp_X8_has
  obtain ⟨j, hj, e⟩ := pk_andE (x >>> (k &&& 31)) (m := 1) 1 (by decide)
  rw [e]
  have h2 : j = 0 ∨ j = 1 := by omega
  rcases h2 with rfl | rfl
  · rfl
  · rfl
theorem has01 (x k : Int32) : sp_X8_has x k = 0 ∨ sp_X8_has x k = 1 := by
  unfold sp_X8_has
  split
  · exact Or.inr rfl
  · exact Or.inl rfl
