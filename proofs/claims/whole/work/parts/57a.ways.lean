/-! pure: ways to build, counted and tried in turn -/
def fr {σ : Type} (f : Nat → σ → σ) (a : Nat) : Nat → σ → σ
  | 0, s => s
  | m + 1, s => f (a + m) (fr f a m s)
theorem fr_add {σ : Type} (f : Nat → σ → σ) (a m : Nat) (s : σ) : ∀ k : Nat, fr f a (m + k) s = fr f (a + m) k (fr f a m s)
  | 0 => rfl
  | k + 1 => by
    show f (a + (m + k)) (fr f a (m + k) s) = f (a + m + k) (fr f (a + m) k (fr f a m s))
    rw [fr_add f a m s k, Nat.add_assoc]
theorem fr_id {σ : Type} {f : Nat → σ → σ} {a : Nat} {s : σ} : ∀ m : Nat, (∀ i : Nat, i < m → ∀ x : σ, f (a + i) x = x) → fr f a m s = s
  | 0, _ => rfl
  | m + 1, h => by
    show f (a + m) (fr f a m s) = s
    rw [fr_id m (fun i hi x => h i (by omega) x)]
    exact h m (by omega) s
/-- the i-th of n figures of c, by 6 -/
def dig (n c i : Nat) : Nat := c / 6 ^ (n - 1 - i) % 6
theorem dig_lt (n c i : Nat) : dig n c i < 6 := Nat.mod_lt _ (by omega)
theorem dig_more {t c p i : Nat} (hp : p < 6) (hi : i < t) : dig (t + 1) (c * 6 + p) i = dig t c i := by
  unfold dig
  obtain ⟨e, rfl⟩ : ∃ e, t = i + 1 + e := ⟨t - (i + 1), by omega⟩
  rw [show i + 1 + e + 1 - 1 - i = e + 1 by omega, show i + 1 + e - 1 - i = e by omega, Nat.pow_succ, Nat.mul_comm (6 ^ e) 6, ← Nat.div_div_eq_div_mul, show (c * 6 + p) / 6 = c by omega]
theorem dig_last {t c p : Nat} (hp : p < 6) : dig (t + 1) (c * 6 + p) t = p := by
  unfold dig
  rw [show t + 1 - 1 - t = 0 by omega, Nat.pow_zero, Nat.div_one]
  omega
theorem dig_pre {n t C e i : Nat} (ht : t ≤ n) (he : e < 6 ^ (n - t)) (hi : i < t) : dig n (C * 6 ^ (n - t) + e) i = dig t C i := by
  unfold dig
  have hpos : 0 < 6 ^ (n - t) := Nat.pow_pos (by omega)
  rw [show n - 1 - i = (n - t) + (t - 1 - i) by omega, Nat.pow_add, ← Nat.div_div_eq_div_mul, Nat.mul_comm C, Nat.mul_add_div hpos, Nat.div_eq_of_lt he, Nat.add_zero]
/-- the turns ahead of t at a plot, as bits -/
def so (D : Nat → Nat) (p : Nat) : Nat → Nat
  | 0 => 0
  | t + 1 => if D t = p then so D p t ||| 2 ^ t else so D p t
theorem so_cong {D D' : Nat → Nat} {p : Nat} : ∀ t : Nat, (∀ i : Nat, i < t → D i = D' i) → so D p t = so D' p t
  | 0, _ => rfl
  | t + 1, h => by
    show (if D t = p then so D p t ||| 2 ^ t else so D p t) = if D' t = p then so D' p t ||| 2 ^ t else so D' p t
    rw [so_cong t (fun i hi => h i (by omega)), h t (by omega)]
theorem so_lt (D : Nat → Nat) (p : Nat) : ∀ t : Nat, so D p t < 2 ^ t
  | 0 => by show 0 < 2 ^ 0; omega
  | t + 1 => by
    have h := so_lt D p t
    have h2 : 2 ^ (t + 1) = 2 ^ t * 2 := Nat.pow_succ _ _
    show (if D t = p then so D p t ||| 2 ^ t else so D p t) < 2 ^ (t + 1)
    by_cases c : D t = p
    · rw [if_pos c]; exact Nat.or_lt_two_pow (by omega) (by omega)
    · rw [if_neg c]; omega
theorem so_bit (D : Nat → Nat) (p j : Nat) : ∀ t : Nat, (so D p t).testBit j = decide (j < t ∧ D j = p)
  | 0 => by
    show (0 : Nat).testBit j = _
    rw [Nat.zero_testBit]
    exact (decide_eq_false (fun q => absurd q.1 (by omega))).symm
  | t + 1 => by
    show (if D t = p then so D p t ||| 2 ^ t else so D p t).testBit j = _
    by_cases c : D t = p
    · rw [if_pos c, tb_or, so_bit D p j t]
      by_cases e : t = j
      · subst e
        rw [decide_eq_true (show t = t from rfl), Bool.or_true]
        exact (decide_eq_true ⟨by omega, c⟩).symm
      · rw [decide_eq_false e, Bool.or_false]
        by_cases g : j < t ∧ D j = p
        · rw [decide_eq_true g, decide_eq_true (show j < t + 1 ∧ D j = p from ⟨by omega, g.2⟩)]
        · rw [decide_eq_false g, decide_eq_false (fun q => g ⟨by omega, q.2⟩)]
    · rw [if_neg c, so_bit D p j t]
      by_cases g : j < t ∧ D j = p
      · rw [decide_eq_true g, decide_eq_true (show j < t + 1 ∧ D j = p from ⟨by omega, g.2⟩)]
      · rw [decide_eq_false g, decide_eq_false (fun q => g ⟨by
          have : j ≠ t := fun e => c (e ▸ q.2)
          omega, q.2⟩)]
/-- whether each turn finds a place -/
def vd (H : Nat → Nat → Nat) (D : Nat → Nat) : Nat → Bool
  | 0 => true
  | k + 1 => vd H D k && decide (H (D k) (so D (D k) k) < 5)
theorem vd_cong {H : Nat → Nat → Nat} {D D' : Nat → Nat} : ∀ t : Nat, (∀ i : Nat, i < t → D i = D' i) → vd H D t = vd H D' t
  | 0, _ => rfl
  | t + 1, h => by
    show (vd H D t && decide (H (D t) (so D (D t) t) < 5)) = (vd H D' t && decide (H (D' t) (so D' (D' t) t) < 5))
    rw [vd_cong t (fun i hi => h i (by omega)), h t (by omega), so_cong t (fun i hi => h i (by omega))]
theorem vd_mono {H : Nat → Nat → Nat} {D : Nat → Nat} {a : Nat} (h : vd H D a = false) : ∀ d : Nat, vd H D (a + d) = false
  | 0 => h
  | d + 1 => by
    show (vd H D (a + d) && decide (H (D (a + d)) (so D (D (a + d)) (a + d)) < 5)) = false
    rw [vd_mono h d, Bool.false_and]
def sum6 (f : Nat → Nat) : Nat := f 0 + f 1 + f 2 + f 3 + f 4 + f 5
theorem sum6_cong {f g : Nat → Nat} (h : ∀ q : Nat, q < 6 → f q = g q) : sum6 f = sum6 g := by
  unfold sum6
  rw [h 0 (by omega), h 1 (by omega), h 2 (by omega), h 3 (by omega), h 4 (by omega), h 5 (by omega)]
theorem sum6_up {f g : Nat → Nat} {p : Nat} (hp : p < 6) (h : ∀ q : Nat, q < 6 → q ≠ p → g q = f q) : sum6 g + f p = sum6 f + g p := by
  unfold sum6
  have a0 := h 0 (by omega)
  have a1 := h 1 (by omega)
  have a2 := h 2 (by omega)
  have a3 := h 3 (by omega)
  have a4 := h 4 (by omega)
  have a5 := h 5 (by omega)
  have hc : p = 0 ∨ p = 1 ∨ p = 2 ∨ p = 3 ∨ p = 4 ∨ p = 5 := by omega
  rcases hc with rfl | rfl | rfl | rfl | rfl | rfl <;> omega
theorem sum6_ge {f : Nat → Nat} {p : Nat} (hp : p < 6) : f p ≤ sum6 f := by
  unfold sum6
  have hc : p = 0 ∨ p = 1 ∨ p = 2 ∨ p = 3 ∨ p = 4 ∨ p = 5 := by omega
  rcases hc with rfl | rfl | rfl | rfl | rfl | rfl <;> omega
theorem sum6_le {f : Nat → Nat} {m : Nat} (h : ∀ q : Nat, q < 6 → f q ≤ m) : sum6 f ≤ 6 * m := by
  unfold sum6
  have a0 := h 0 (by omega)
  have a1 := h 1 (by omega)
  have a2 := h 2 (by omega)
  have a3 := h 3 (by omega)
  have a4 := h 4 (by omega)
  have a5 := h 5 (by omega)
  omega
/-- how many storeys there are behind t turns of D -/
def tt_ (H : Nat → Nat → Nat) (D : Nat → Nat) (t : Nat) : Nat := sum6 (fun p => H p (so D p t))
theorem tt_cong {H : Nat → Nat → Nat} {D D' : Nat → Nat} {t : Nat} (h : ∀ i : Nat, i < t → D i = D' i) : tt_ H D t = tt_ H D' t :=
  sum6_cong (fun q _ => by rw [so_cong t h])
/-- one way more: the first of the most is kept -/
def wy (H : Nat → Nat → Nat) (n c : Nat) (s : Option (Nat × Nat)) : Option (Nat × Nat) :=
  if vd H (dig n c) n = true then (match s with
    | none => some (tt_ H (dig n c) n, c)
    | some b => if b.1 < tt_ H (dig n c) n then some (tt_ H (dig n c) n, c) else some b) else s
/-- the most so far and its way, as the class and the model hold them -/
def RS (n : Nat) (s : Option (Nat × Nat)) (best : Int32) (bp : Nat → Int32) : Prop :=
  (s = none ∧ best = -1) ∨ ∃ v c : Nat, s = some (v, c) ∧ v ≤ 30 ∧ best = nI v ∧ ∀ i : Nat, i < n → bp i = nI (dig n c i)
theorem RS_wy {H : Nat → Nat → Nat} {n c : Nat} {s : Option (Nat × Nat)} {best : Int32} {bp pl : Nat → Int32} (hH : ∀ p x : Nat, H p x ≤ 5) (R : RS n s best bp) (hv : vd H (dig n c) n = true) (hp : ∀ i : Nat, i < n → pl i = nI (dig n c i)) : (nI (tt_ H (dig n c) n) ≤ best → RS n (wy H n c s) best bp) ∧ (¬ nI (tt_ H (dig n c) n) ≤ best → RS n (wy H n c s) (nI (tt_ H (dig n c) n)) pl) := by
  have h30 : tt_ H (dig n c) n ≤ 6 * 5 := sum6_le (fun q _ => hH _ _)
  unfold wy
  rw [if_pos hv]
  rcases R with ⟨rfl, rfl⟩ | ⟨v, c', rfl, hv30, rfl, hb⟩
  · refine ⟨fun h => absurd h ?_, fun _ => Or.inr ⟨_, c, rfl, by omega, rfl, hp⟩⟩
    rw [Int32.le_iff_toInt_le, nI_toInt (by omega), show ((-1 : Int32)).toInt = -1 from by decide]
    omega
  · rw [nI_leI (by omega) (by omega)]
    refine ⟨fun h => ?_, fun h => ?_⟩
    · show RS n (if v < tt_ H (dig n c) n then some (tt_ H (dig n c) n, c) else some (v, c')) (nI v) bp
      rw [if_neg (by omega)]
      exact Or.inr ⟨v, c', rfl, hv30, rfl, hb⟩
    · show RS n (if v < tt_ H (dig n c) n then some (tt_ H (dig n c) n, c) else some (v, c')) _ pl
      rw [if_pos (by omega)]
      exact Or.inr ⟨_, c, rfl, by omega, rfl, hp⟩
theorem wy_no {H : Nat → Nat → Nat} {n c : Nat} {s : Option (Nat × Nat)} (h : vd H (dig n c) n = false) : wy H n c s = s := by
  unfold wy
  rw [h, if_neg (fun q => Bool.noConfusion q)]
/-- a range of ways none of which finds its places -/
theorem fr_no {H : Nat → Nat → Nat} {n t C : Nat} {s : Option (Nat × Nat)} (ht : t ≤ n) (h : vd H (dig t C) t = false) : fr (wy H n) (C * 6 ^ (n - t)) (6 ^ (n - t)) s = s := by
  refine fr_id _ (fun e he x => wy_no ?_)
  obtain ⟨d, hd⟩ : ∃ d, n = t + d := ⟨n - t, by omega⟩
  have h2 : vd H (dig n (C * 6 ^ (n - t) + e)) t = false := by
    rw [vd_cong t (fun i hi => dig_pre ht he hi)]; exact h
  have := vd_mono h2 d
  rwa [← hd] at this
theorem or_n {x t : Nat} (hx : x < 16) (ht : t < 4) : nI x ||| ((1 : Int32) <<< (nI t &&& 31)) = nI (x ||| 2 ^ t) := (bit_or x (by omega) t (by omega)).1
theorem x16 (p x : Nat) : nI p * 16 + nI x = nI (p * 16 + x) := by
  rw [show nI p * 16 = nI (p * 16) from pk_mul p 16, nI_add]
theorem two4 {t : Nat} (h : t ≤ 4) : 2 ^ t ≤ 16 := by
  have hc : t = 0 ∨ t = 1 ∨ t = 2 ∨ t = 3 ∨ t = 4 := by omega
  rcases hc with rfl | rfl | rfl | rfl | rfl <;> decide
/-- what a chooser of turn t does -/
def CH (H : Nat → Nat → Nat) (n : Nat) (hs : Nat → Int32) (F : Int32 → Int32 → Int32 → Int32 → (Nat → Int32) → (Nat → Int32) → (Nat → Int32) → (Nat → Int32) → Option (Int32 × (Nat → Int32) × (Nat → Int32) × (Nat → Int32))) (t : Nat) : Prop :=
  ∀ (C : Nat) (s : Option (Nat × Nat)) (best : Int32) (sets plots bp : Nat → Int32), vd H (dig t C) t = true → (∀ p : Nat, p < 6 → sets p = nI (so (dig t C) p t)) → (∀ i : Nat, i < t → plots i = nI (dig t C i)) → RS n s best bp →
  ∃ (best' : Int32) (sets' plots' bp' : Nat → Int32), F (nI t) (nI (tt_ H (dig t C) t)) (nI n) best sets hs plots bp = some (best', sets', plots', bp') ∧ (∀ p : Nat, p < 6 → sets' p = sets p) ∧ (∀ i : Nat, i < t → plots' i = plots i) ∧ RS n (fr (wy H n) (C * 6 ^ (n - t)) (6 ^ (n - t)) s) best' bp'
theorem fr_one {H : Nat → Nat → Nat} {n C : Nat} {s : Option (Nat × Nat)} : fr (wy H n) (C * 6 ^ (n - n)) (6 ^ (n - n)) s = wy H n C s := by
  rw [Nat.sub_self, Nat.pow_zero, Nat.mul_one]; rfl
/-- one turn more -/
theorem turn_on {H : Nat → Nat → Nat} {t C p : Nat} {sets plots : Nat → Int32} (ht : t < 4) (hp : p < 6) (hv : vd H (dig t C) t = true) (hb : H p (so (dig t C) p t) < 5) (h1 : ∀ q : Nat, q < 6 → sets q = nI (so (dig t C) q t)) (h2 : ∀ i : Nat, i < t → plots i = nI (dig t C i)) :
    vd H (dig (t + 1) (C * 6 + p)) (t + 1) = true ∧ (∀ q : Nat, q < 6 → upd sets p (nI (so (dig t C) p t ||| 2 ^ t)) q = nI (so (dig (t + 1) (C * 6 + p)) q (t + 1))) ∧ (∀ i : Nat, i < t + 1 → upd plots t (nI p) i = nI (dig (t + 1) (C * 6 + p) i)) ∧ nI (tt_ H (dig t C) t) - nI (H p (so (dig t C) p t)) + nI (H p (so (dig t C) p t ||| 2 ^ t)) = nI (tt_ H (dig (t + 1) (C * 6 + p)) (t + 1)) := by
  have hc : ∀ i : Nat, i < t → dig (t + 1) (C * 6 + p) i = dig t C i := fun i hi => dig_more hp hi
  have hl : dig (t + 1) (C * 6 + p) t = p := dig_last hp
  have hs : ∀ q : Nat, so (dig (t + 1) (C * 6 + p)) q (t + 1) = if p = q then so (dig t C) q t ||| 2 ^ t else so (dig t C) q t := fun q => by
    show (if dig (t + 1) (C * 6 + p) t = q then so (dig (t + 1) (C * 6 + p)) q t ||| 2 ^ t else so (dig (t + 1) (C * 6 + p)) q t) = _
    rw [hl, so_cong t hc]
  refine ⟨?_, fun q hq => ?_, fun i hi => ?_, ?_⟩
  · show (vd H (dig (t + 1) (C * 6 + p)) t && decide (H (dig (t + 1) (C * 6 + p) t) (so (dig (t + 1) (C * 6 + p)) (dig (t + 1) (C * 6 + p) t) t) < 5)) = true
    rw [vd_cong t hc, hv, hl, so_cong t hc, decide_eq_true hb]; rfl
  · rw [hs]
    by_cases e : q = p
    · subst e; rw [upd_s, if_pos rfl]
    · rw [upd_o e, if_neg (fun x => e x.symm)]; exact h1 q hq
  · by_cases e : i = t
    · subst e; rw [upd_s, hl]
    · rw [upd_o e, hc i (by omega)]; exact h2 i (by omega)
  · have h := sum6_up (f := fun q => H q (so (dig t C) q t)) (g := fun q => H q (so (dig (t + 1) (C * 6 + p)) q (t + 1))) hp (fun q _ hq => by
      show H q (so (dig (t + 1) (C * 6 + p)) q (t + 1)) = H q (so (dig t C) q t)
      rw [hs, if_neg (fun x => hq x.symm)])
    have g := sum6_ge (f := fun q => H q (so (dig t C) q t)) hp
    simp only [hs p, if_pos] at h
    have e1 : tt_ H (dig t C) t = sum6 (fun q => H q (so (dig t C) q t)) := rfl
    have e2 : tt_ H (dig (t + 1) (C * 6 + p)) (t + 1) = sum6 (fun q => H q (so (dig (t + 1) (C * 6 + p)) q (t + 1))) := rfl
    rw [e1, e2, pk_sub (by omega), nI_add]
    congr 1
    omega
theorem turn_no {H : Nat → Nat → Nat} {t C p : Nat} (hp : p < 6) (hb : ¬ H p (so (dig t C) p t) < 5) : vd H (dig (t + 1) (C * 6 + p)) (t + 1) = false := by
  have hc : ∀ i : Nat, i < t → dig (t + 1) (C * 6 + p) i = dig t C i := fun i hi => dig_more hp hi
  have hl : dig (t + 1) (C * 6 + p) t = p := dig_last hp
  show (vd H (dig (t + 1) (C * 6 + p)) t && decide (H (dig (t + 1) (C * 6 + p) t) (so (dig (t + 1) (C * 6 + p)) (dig (t + 1) (C * 6 + p) t) t) < 5)) = false
  rw [hl, so_cong t hc, decide_eq_false hb, Bool.and_false]
theorem frs {H : Nat → Nat → Nat} {n t C p : Nat} {s : Option (Nat × Nat)} (ht : t < n) : fr (wy H n) (C * 6 ^ (n - t)) ((p + 1) * 6 ^ (n - (t + 1))) s = fr (wy H n) ((C * 6 + p) * 6 ^ (n - (t + 1))) (6 ^ (n - (t + 1))) (fr (wy H n) (C * 6 ^ (n - t)) (p * 6 ^ (n - (t + 1))) s) := by
  rw [Nat.succ_mul, fr_add]
  congr 1
  rw [show n - t = (n - (t + 1)) + 1 by omega, Nat.pow_succ, Nat.add_mul, Nat.mul_assoc, Nat.mul_comm 6]
noncomputable def ch0 : Int32 → Int32 → Int32 → Int32 → (Nat → Int32) → (Nat → Int32) → (Nat → Int32) → (Nat → Int32) → Option (Int32 × (Nat → Int32) × (Nat → Int32) × (Nat → Int32)) := fun p1 p2 n b sets hs plots bp => Option.bind (sp_X1_choose_0 p1 p2 n b sets hs plots bp) fun z => some (z.1, sets, plots, z.2)
theorem CH_0 {H : Nat → Nat → Nat} {n : Nat} {hs : Nat → Int32} (hH : ∀ p x : Nat, H p x ≤ 5) (hn : n ≤ 4) : CH H n hs ch0 n := by
  intro C s best sets plots bp hv h1 h2 R
  have w := RS_wy hH R hv h2
  rw [fr_one]
  unfold ch0 sp_X1_choose_0
  rw [if_neg (nI_nlt (Nat.le_refl n) (by omega))]
  by_cases c : nI (tt_ H (dig n C) n) ≤ best
  · rw [if_pos c]
    exact ⟨_, _, _, _, rfl, fun _ _ => rfl, fun _ _ => rfl, w.1 c⟩
  · rw [if_neg c]
    exact ⟨_, _, _, _, rfl, fun _ _ => rfl, fun _ _ => rfl, w.2 c⟩
theorem ch0_of {p1 p2 n b : Int32} {sets hs plots bp : Nat → Int32} {b' : Int32} {se' pl' bp' : Nat → Int32} (h : ch0 p1 p2 n b sets hs plots bp = some (b', se', pl', bp')) : sp_X1_choose_0 p1 p2 n b sets hs plots bp = some (b', bp') ∧ se' = sets ∧ pl' = plots := by
  unfold ch0 at h
  cases e : sp_X1_choose_0 p1 p2 n b sets hs plots bp with
  | none => rw [e] at h; cases h
  | some z => rw [e] at h; cases h; exact ⟨rfl, rfl, rfl⟩
theorem CH_1 {H : Nat → Nat → Nat} {n t : Nat} {hs : Nat → Int32} (hH : ∀ p x : Nat, H p x ≤ 5) (hn : n ≤ 4) (hhs : ∀ p x : Nat, p < 6 → x < 2 ^ n → hs (p * 16 + x) = nI (H p x)) (ht : t ≤ n) (hprev : t < n → CH H n hs ch0 (t + 1)) : CH H n hs sp_X1_choose_1 t := by
  intro C s best sets plots bp hv h1 h2 R
  by_cases c : t = n
  · subst c
    have w := RS_wy hH R hv h2
    rw [fr_one]
    unfold sp_X1_choose_1
    rw [if_neg (nI_nlt (Nat.le_refl t) (by omega))]
    by_cases c : nI (tt_ H (dig t C) t) ≤ best
    · rw [if_pos c]
      exact ⟨_, _, _, _, rfl, fun _ _ => rfl, fun _ _ => rfl, w.1 c⟩
    · rw [if_neg c]
      exact ⟨_, _, _, _, rfl, fun _ _ => rfl, fun _ _ => rfl, w.2 c⟩
  · have hlt : t < n := by omega
    obtain ⟨r, e1, q1, q2, q3⟩ := lk1 (L := fun fu (x : Int32 × Int32 × (Nat → Int32) × (Nat → Int32) × (Nat → Int32)) => lp_X1_choose_1_35 (nI t) (nI (tt_ H (dig t C) t)) (nI n) hs fu x.1 x.2.1 x.2.2.1 x.2.2.2.1 x.2.2.2.2)
      (fun d x => ∃ p : Nat, p + d = 6 ∧ x.1 = nI p ∧ (∀ q : Nat, q < 6 → x.2.2.1 q = sets q) ∧ (∀ i : Nat, i < t → x.2.2.2.1 i = plots i) ∧ RS n (fr (wy H n) (C * 6 ^ (n - t)) (p * 6 ^ (n - (t + 1))) s) x.2.1 x.2.2.2.2)
      (fun r => (∀ q : Nat, q < 6 → r.2.2.1 q = sets q) ∧ (∀ i : Nat, i < t → r.2.2.2.1 i = plots i) ∧ RS n (fr (wy H n) (C * 6 ^ (n - t)) (6 ^ (n - t)) s) r.2.1 r.2.2.2.2) (by
      rintro d fu ⟨x, b, se, pl, bb⟩ hd ⟨p, hp, ex, g1, g2, g3⟩
      simp only at ex g1 g2 g3
      subst ex
      dsimp only
      rw [lp_X1_choose_1_35]
      cases d with
      | zero =>
        obtain rfl : p = 6 := by omega
        rw [if_pos (show (6 : Int32) ≤ nI 6 from Int32.le_refl _)]
        refine Or.inl ⟨_, rfl, g1, g2, ?_⟩
        have e6 : 6 * 6 ^ (n - (t + 1)) = 6 ^ (n - t) := by rw [show n - t = (n - (t + 1)) + 1 by omega, Nat.pow_succ, Nat.mul_comm]
        rw [e6] at g3
        exact g3
      | succ d =>
        have hp6 : p < 6 := by omega
        have k1 : se p = nI (so (dig t C) p t) := (g1 p hp6).trans (h1 p hp6)
        have b1 : so (dig t C) p t < 2 ^ t := so_lt _ _ _
        have b0 : 2 ^ (t + 1) = 2 ^ t * 2 := Nat.pow_succ 2 t
        have b3 : 2 ^ n ≤ 16 := two4 hn
        have b4 : so (dig t C) p t ||| 2 ^ t < 2 ^ (t + 1) := Nat.or_lt_two_pow (by omega) (by omega)
        have b5 : 2 ^ (t + 1) ≤ 2 ^ n := Nat.pow_le_pow_right (by omega) (by omega)
        have hH1 : H p (so (dig t C) p t) ≤ 5 := hH _ _
        rw [if_neg (show ¬ (6 : Int32) ≤ nI p from nI_ge (b := 6) hp6 (by omega)), at_n hp6 (by omega), k1, x16, at_n (by omega) (by omega), hhs p _ hp6 (by omega), nI_1 p]
        by_cases c5 : H p (so (dig t C) p t) < 5
        · rw [if_neg (show ¬ (5 : Int32) ≤ nI _ from nI_ge (b := 5) c5 (by omega)), or_n (by omega) (by omega), put_n hp6 (by omega), put_n (show t < 4 by omega) (by omega), x16, at_n (by omega) (by omega), hhs p _ hp6 (by omega), nI_1 t]
          obtain ⟨t1, t2, t3, t4⟩ := turn_on (H := H) (sets := se) (plots := pl) (by omega) hp6 hv c5 (fun q hq => (g1 q hq).trans (h1 q hq)) (fun i hi => (g2 i hi).trans (h2 i hi))
          rw [t4]
          obtain ⟨b', se', pl', bp', f1, f2, f3, f4⟩ := hprev hlt (C * 6 + p) _ b _ _ bb t1 t2 t3 g3
          obtain ⟨f9, rfl, rfl⟩ := ch0_of f1
          simp only [lt_]
          rw [f9]
          simp only [Option.bind_some]
          rw [put_n hp6 (by omega)]
          refine Or.inr ⟨d, (_, _, _, _, _), rfl, rfl, p + 1, by omega, rfl, fun q hq => ?_, fun i hi => ?_, ?_⟩
          · by_cases e : q = p
            · subst e; exact upd_s.trans (h1 q hq).symm
            · refine (upd_o e).trans ((f2 q hq).trans ((upd_o e).trans (g1 q hq)))
          · exact (f3 i (by omega)).trans ((upd_o (by omega)).trans (g2 i hi))
          · rw [frs hlt]; exact f4
        · rw [if_pos (show (5 : Int32) ≤ nI _ from by rw [show H p (so (dig t C) p t) = 5 by omega]; exact Int32.le_refl _)]
          refine Or.inr ⟨d, (_, _, _, _, _), rfl, rfl, p + 1, by omega, rfl, g1, g2, ?_⟩
          rw [frs hlt, fr_no (by omega) (turn_no hp6 c5)]
          exact g3) 6 FU (nI 0, best, sets, plots, bp) (by rw [FU_eq]; omega) ⟨0, by omega, rfl, fun _ _ => rfl, fun _ _ => rfl, by rw [Nat.zero_mul]; exact R⟩
    have e1 : lp_X1_choose_1_35 (nI t) (nI (tt_ H (dig t C) t)) (nI n) hs FU 0 best sets plots bp = some r := e1
    unfold sp_X1_choose_1
    rw [if_pos (nI_lt hlt (by omega)), e1]
    exact ⟨_, _, _, _, rfl, q1, q2, q3⟩
theorem CH_2 {H : Nat → Nat → Nat} {n t : Nat} {hs : Nat → Int32} (hH : ∀ p x : Nat, H p x ≤ 5) (hn : n ≤ 4) (hhs : ∀ p x : Nat, p < 6 → x < 2 ^ n → hs (p * 16 + x) = nI (H p x)) (ht : t ≤ n) (hprev : t < n → CH H n hs sp_X1_choose_1 (t + 1)) : CH H n hs sp_X1_choose_2 t := by
  intro C s best sets plots bp hv h1 h2 R
  by_cases c : t = n
  · subst c
    have w := RS_wy hH R hv h2
    rw [fr_one]
    unfold sp_X1_choose_2
    rw [if_neg (nI_nlt (Nat.le_refl t) (by omega))]
    by_cases c : nI (tt_ H (dig t C) t) ≤ best
    · rw [if_pos c]
      exact ⟨_, _, _, _, rfl, fun _ _ => rfl, fun _ _ => rfl, w.1 c⟩
    · rw [if_neg c]
      exact ⟨_, _, _, _, rfl, fun _ _ => rfl, fun _ _ => rfl, w.2 c⟩
  · have hlt : t < n := by omega
    obtain ⟨r, e1, q1, q2, q3⟩ := lk1 (L := fun fu (x : Int32 × Int32 × (Nat → Int32) × (Nat → Int32) × (Nat → Int32)) => lp_X1_choose_2_35 (nI t) (nI (tt_ H (dig t C) t)) (nI n) hs fu x.1 x.2.1 x.2.2.1 x.2.2.2.1 x.2.2.2.2)
      (fun d x => ∃ p : Nat, p + d = 6 ∧ x.1 = nI p ∧ (∀ q : Nat, q < 6 → x.2.2.1 q = sets q) ∧ (∀ i : Nat, i < t → x.2.2.2.1 i = plots i) ∧ RS n (fr (wy H n) (C * 6 ^ (n - t)) (p * 6 ^ (n - (t + 1))) s) x.2.1 x.2.2.2.2)
      (fun r => (∀ q : Nat, q < 6 → r.2.2.1 q = sets q) ∧ (∀ i : Nat, i < t → r.2.2.2.1 i = plots i) ∧ RS n (fr (wy H n) (C * 6 ^ (n - t)) (6 ^ (n - t)) s) r.2.1 r.2.2.2.2) (by
      rintro d fu ⟨x, b, se, pl, bb⟩ hd ⟨p, hp, ex, g1, g2, g3⟩
      simp only at ex g1 g2 g3
      subst ex
      dsimp only
      rw [lp_X1_choose_2_35]
      cases d with
      | zero =>
        obtain rfl : p = 6 := by omega
        rw [if_pos (show (6 : Int32) ≤ nI 6 from Int32.le_refl _)]
        refine Or.inl ⟨_, rfl, g1, g2, ?_⟩
        have e6 : 6 * 6 ^ (n - (t + 1)) = 6 ^ (n - t) := by rw [show n - t = (n - (t + 1)) + 1 by omega, Nat.pow_succ, Nat.mul_comm]
        rw [e6] at g3
        exact g3
      | succ d =>
        have hp6 : p < 6 := by omega
        have k1 : se p = nI (so (dig t C) p t) := (g1 p hp6).trans (h1 p hp6)
        have b1 : so (dig t C) p t < 2 ^ t := so_lt _ _ _
        have b0 : 2 ^ (t + 1) = 2 ^ t * 2 := Nat.pow_succ 2 t
        have b3 : 2 ^ n ≤ 16 := two4 hn
        have b4 : so (dig t C) p t ||| 2 ^ t < 2 ^ (t + 1) := Nat.or_lt_two_pow (by omega) (by omega)
        have b5 : 2 ^ (t + 1) ≤ 2 ^ n := Nat.pow_le_pow_right (by omega) (by omega)
        have hH1 : H p (so (dig t C) p t) ≤ 5 := hH _ _
        rw [if_neg (show ¬ (6 : Int32) ≤ nI p from nI_ge (b := 6) hp6 (by omega)), at_n hp6 (by omega), k1, x16, at_n (by omega) (by omega), hhs p _ hp6 (by omega), nI_1 p]
        by_cases c5 : H p (so (dig t C) p t) < 5
        · rw [if_neg (show ¬ (5 : Int32) ≤ nI _ from nI_ge (b := 5) c5 (by omega)), or_n (by omega) (by omega), put_n hp6 (by omega), put_n (show t < 4 by omega) (by omega), x16, at_n (by omega) (by omega), hhs p _ hp6 (by omega), nI_1 t]
          obtain ⟨t1, t2, t3, t4⟩ := turn_on (H := H) (sets := se) (plots := pl) (by omega) hp6 hv c5 (fun q hq => (g1 q hq).trans (h1 q hq)) (fun i hi => (g2 i hi).trans (h2 i hi))
          rw [t4]
          obtain ⟨b', se', pl', bp', f1, f2, f3, f4⟩ := hprev hlt (C * 6 + p) _ b _ _ bb t1 t2 t3 g3
          have f9 := f1
          simp only [lt_]
          rw [f9]
          simp only [Option.bind_some]
          rw [put_n hp6 (by omega)]
          refine Or.inr ⟨d, (_, _, _, _, _), rfl, rfl, p + 1, by omega, rfl, fun q hq => ?_, fun i hi => ?_, ?_⟩
          · by_cases e : q = p
            · subst e; exact upd_s.trans (h1 q hq).symm
            · refine (upd_o e).trans ((f2 q hq).trans ((upd_o e).trans (g1 q hq)))
          · exact (f3 i (by omega)).trans ((upd_o (by omega)).trans (g2 i hi))
          · rw [frs hlt]; exact f4
        · rw [if_pos (show (5 : Int32) ≤ nI _ from by rw [show H p (so (dig t C) p t) = 5 by omega]; exact Int32.le_refl _)]
          refine Or.inr ⟨d, (_, _, _, _, _), rfl, rfl, p + 1, by omega, rfl, g1, g2, ?_⟩
          rw [frs hlt, fr_no (by omega) (turn_no hp6 c5)]
          exact g3) 6 FU (nI 0, best, sets, plots, bp) (by rw [FU_eq]; omega) ⟨0, by omega, rfl, fun _ _ => rfl, fun _ _ => rfl, by rw [Nat.zero_mul]; exact R⟩
    have e1 : lp_X1_choose_2_35 (nI t) (nI (tt_ H (dig t C) t)) (nI n) hs FU 0 best sets plots bp = some r := e1
    unfold sp_X1_choose_2
    rw [if_pos (nI_lt hlt (by omega)), e1]
    exact ⟨_, _, _, _, rfl, q1, q2, q3⟩
theorem CH_3 {H : Nat → Nat → Nat} {n t : Nat} {hs : Nat → Int32} (hH : ∀ p x : Nat, H p x ≤ 5) (hn : n ≤ 4) (hhs : ∀ p x : Nat, p < 6 → x < 2 ^ n → hs (p * 16 + x) = nI (H p x)) (ht : t ≤ n) (hprev : t < n → CH H n hs sp_X1_choose_2 (t + 1)) : CH H n hs sp_X1_choose_3 t := by
  intro C s best sets plots bp hv h1 h2 R
  by_cases c : t = n
  · subst c
    have w := RS_wy hH R hv h2
    rw [fr_one]
    unfold sp_X1_choose_3
    rw [if_neg (nI_nlt (Nat.le_refl t) (by omega))]
    by_cases c : nI (tt_ H (dig t C) t) ≤ best
    · rw [if_pos c]
      exact ⟨_, _, _, _, rfl, fun _ _ => rfl, fun _ _ => rfl, w.1 c⟩
    · rw [if_neg c]
      exact ⟨_, _, _, _, rfl, fun _ _ => rfl, fun _ _ => rfl, w.2 c⟩
  · have hlt : t < n := by omega
    obtain ⟨r, e1, q1, q2, q3⟩ := lk1 (L := fun fu (x : Int32 × Int32 × (Nat → Int32) × (Nat → Int32) × (Nat → Int32)) => lp_X1_choose_3_35 (nI t) (nI (tt_ H (dig t C) t)) (nI n) hs fu x.1 x.2.1 x.2.2.1 x.2.2.2.1 x.2.2.2.2)
      (fun d x => ∃ p : Nat, p + d = 6 ∧ x.1 = nI p ∧ (∀ q : Nat, q < 6 → x.2.2.1 q = sets q) ∧ (∀ i : Nat, i < t → x.2.2.2.1 i = plots i) ∧ RS n (fr (wy H n) (C * 6 ^ (n - t)) (p * 6 ^ (n - (t + 1))) s) x.2.1 x.2.2.2.2)
      (fun r => (∀ q : Nat, q < 6 → r.2.2.1 q = sets q) ∧ (∀ i : Nat, i < t → r.2.2.2.1 i = plots i) ∧ RS n (fr (wy H n) (C * 6 ^ (n - t)) (6 ^ (n - t)) s) r.2.1 r.2.2.2.2) (by
      rintro d fu ⟨x, b, se, pl, bb⟩ hd ⟨p, hp, ex, g1, g2, g3⟩
      simp only at ex g1 g2 g3
      subst ex
      dsimp only
      rw [lp_X1_choose_3_35]
      cases d with
      | zero =>
        obtain rfl : p = 6 := by omega
        rw [if_pos (show (6 : Int32) ≤ nI 6 from Int32.le_refl _)]
        refine Or.inl ⟨_, rfl, g1, g2, ?_⟩
        have e6 : 6 * 6 ^ (n - (t + 1)) = 6 ^ (n - t) := by rw [show n - t = (n - (t + 1)) + 1 by omega, Nat.pow_succ, Nat.mul_comm]
        rw [e6] at g3
        exact g3
      | succ d =>
        have hp6 : p < 6 := by omega
        have k1 : se p = nI (so (dig t C) p t) := (g1 p hp6).trans (h1 p hp6)
        have b1 : so (dig t C) p t < 2 ^ t := so_lt _ _ _
        have b0 : 2 ^ (t + 1) = 2 ^ t * 2 := Nat.pow_succ 2 t
        have b3 : 2 ^ n ≤ 16 := two4 hn
        have b4 : so (dig t C) p t ||| 2 ^ t < 2 ^ (t + 1) := Nat.or_lt_two_pow (by omega) (by omega)
        have b5 : 2 ^ (t + 1) ≤ 2 ^ n := Nat.pow_le_pow_right (by omega) (by omega)
        have hH1 : H p (so (dig t C) p t) ≤ 5 := hH _ _
        rw [if_neg (show ¬ (6 : Int32) ≤ nI p from nI_ge (b := 6) hp6 (by omega)), at_n hp6 (by omega), k1, x16, at_n (by omega) (by omega), hhs p _ hp6 (by omega), nI_1 p]
        by_cases c5 : H p (so (dig t C) p t) < 5
        · rw [if_neg (show ¬ (5 : Int32) ≤ nI _ from nI_ge (b := 5) c5 (by omega)), or_n (by omega) (by omega), put_n hp6 (by omega), put_n (show t < 4 by omega) (by omega), x16, at_n (by omega) (by omega), hhs p _ hp6 (by omega), nI_1 t]
          obtain ⟨t1, t2, t3, t4⟩ := turn_on (H := H) (sets := se) (plots := pl) (by omega) hp6 hv c5 (fun q hq => (g1 q hq).trans (h1 q hq)) (fun i hi => (g2 i hi).trans (h2 i hi))
          rw [t4]
          obtain ⟨b', se', pl', bp', f1, f2, f3, f4⟩ := hprev hlt (C * 6 + p) _ b _ _ bb t1 t2 t3 g3
          have f9 := f1
          simp only [lt_]
          rw [f9]
          simp only [Option.bind_some]
          rw [put_n hp6 (by omega)]
          refine Or.inr ⟨d, (_, _, _, _, _), rfl, rfl, p + 1, by omega, rfl, fun q hq => ?_, fun i hi => ?_, ?_⟩
          · by_cases e : q = p
            · subst e; exact upd_s.trans (h1 q hq).symm
            · refine (upd_o e).trans ((f2 q hq).trans ((upd_o e).trans (g1 q hq)))
          · exact (f3 i (by omega)).trans ((upd_o (by omega)).trans (g2 i hi))
          · rw [frs hlt]; exact f4
        · rw [if_pos (show (5 : Int32) ≤ nI _ from by rw [show H p (so (dig t C) p t) = 5 by omega]; exact Int32.le_refl _)]
          refine Or.inr ⟨d, (_, _, _, _, _), rfl, rfl, p + 1, by omega, rfl, g1, g2, ?_⟩
          rw [frs hlt, fr_no (by omega) (turn_no hp6 c5)]
          exact g3) 6 FU (nI 0, best, sets, plots, bp) (by rw [FU_eq]; omega) ⟨0, by omega, rfl, fun _ _ => rfl, fun _ _ => rfl, by rw [Nat.zero_mul]; exact R⟩
    have e1 : lp_X1_choose_3_35 (nI t) (nI (tt_ H (dig t C) t)) (nI n) hs FU 0 best sets plots bp = some r := e1
    unfold sp_X1_choose_3
    rw [if_pos (nI_lt hlt (by omega)), e1]
    exact ⟨_, _, _, _, rfl, q1, q2, q3⟩
theorem CH_4 {H : Nat → Nat → Nat} {n t : Nat} {hs : Nat → Int32} (hH : ∀ p x : Nat, H p x ≤ 5) (hn : n ≤ 4) (hhs : ∀ p x : Nat, p < 6 → x < 2 ^ n → hs (p * 16 + x) = nI (H p x)) (ht : t ≤ n) (hprev : t < n → CH H n hs sp_X1_choose_3 (t + 1)) : CH H n hs sp_X1_choose_4 t := by
  intro C s best sets plots bp hv h1 h2 R
  by_cases c : t = n
  · subst c
    have w := RS_wy hH R hv h2
    rw [fr_one]
    unfold sp_X1_choose_4
    rw [if_neg (nI_nlt (Nat.le_refl t) (by omega))]
    by_cases c : nI (tt_ H (dig t C) t) ≤ best
    · rw [if_pos c]
      exact ⟨_, _, _, _, rfl, fun _ _ => rfl, fun _ _ => rfl, w.1 c⟩
    · rw [if_neg c]
      exact ⟨_, _, _, _, rfl, fun _ _ => rfl, fun _ _ => rfl, w.2 c⟩
  · have hlt : t < n := by omega
    obtain ⟨r, e1, q1, q2, q3⟩ := lk1 (L := fun fu (x : Int32 × Int32 × (Nat → Int32) × (Nat → Int32) × (Nat → Int32)) => lp_X1_choose_4_35 (nI t) (nI (tt_ H (dig t C) t)) (nI n) hs fu x.1 x.2.1 x.2.2.1 x.2.2.2.1 x.2.2.2.2)
      (fun d x => ∃ p : Nat, p + d = 6 ∧ x.1 = nI p ∧ (∀ q : Nat, q < 6 → x.2.2.1 q = sets q) ∧ (∀ i : Nat, i < t → x.2.2.2.1 i = plots i) ∧ RS n (fr (wy H n) (C * 6 ^ (n - t)) (p * 6 ^ (n - (t + 1))) s) x.2.1 x.2.2.2.2)
      (fun r => (∀ q : Nat, q < 6 → r.2.2.1 q = sets q) ∧ (∀ i : Nat, i < t → r.2.2.2.1 i = plots i) ∧ RS n (fr (wy H n) (C * 6 ^ (n - t)) (6 ^ (n - t)) s) r.2.1 r.2.2.2.2) (by
      rintro d fu ⟨x, b, se, pl, bb⟩ hd ⟨p, hp, ex, g1, g2, g3⟩
      simp only at ex g1 g2 g3
      subst ex
      dsimp only
      rw [lp_X1_choose_4_35]
      cases d with
      | zero =>
        obtain rfl : p = 6 := by omega
        rw [if_pos (show (6 : Int32) ≤ nI 6 from Int32.le_refl _)]
        refine Or.inl ⟨_, rfl, g1, g2, ?_⟩
        have e6 : 6 * 6 ^ (n - (t + 1)) = 6 ^ (n - t) := by rw [show n - t = (n - (t + 1)) + 1 by omega, Nat.pow_succ, Nat.mul_comm]
        rw [e6] at g3
        exact g3
      | succ d =>
        have hp6 : p < 6 := by omega
        have k1 : se p = nI (so (dig t C) p t) := (g1 p hp6).trans (h1 p hp6)
        have b1 : so (dig t C) p t < 2 ^ t := so_lt _ _ _
        have b0 : 2 ^ (t + 1) = 2 ^ t * 2 := Nat.pow_succ 2 t
        have b3 : 2 ^ n ≤ 16 := two4 hn
        have b4 : so (dig t C) p t ||| 2 ^ t < 2 ^ (t + 1) := Nat.or_lt_two_pow (by omega) (by omega)
        have b5 : 2 ^ (t + 1) ≤ 2 ^ n := Nat.pow_le_pow_right (by omega) (by omega)
        have hH1 : H p (so (dig t C) p t) ≤ 5 := hH _ _
        rw [if_neg (show ¬ (6 : Int32) ≤ nI p from nI_ge (b := 6) hp6 (by omega)), at_n hp6 (by omega), k1, x16, at_n (by omega) (by omega), hhs p _ hp6 (by omega), nI_1 p]
        by_cases c5 : H p (so (dig t C) p t) < 5
        · rw [if_neg (show ¬ (5 : Int32) ≤ nI _ from nI_ge (b := 5) c5 (by omega)), or_n (by omega) (by omega), put_n hp6 (by omega), put_n (show t < 4 by omega) (by omega), x16, at_n (by omega) (by omega), hhs p _ hp6 (by omega), nI_1 t]
          obtain ⟨t1, t2, t3, t4⟩ := turn_on (H := H) (sets := se) (plots := pl) (by omega) hp6 hv c5 (fun q hq => (g1 q hq).trans (h1 q hq)) (fun i hi => (g2 i hi).trans (h2 i hi))
          rw [t4]
          obtain ⟨b', se', pl', bp', f1, f2, f3, f4⟩ := hprev hlt (C * 6 + p) _ b _ _ bb t1 t2 t3 g3
          have f9 := f1
          simp only [lt_]
          rw [f9]
          simp only [Option.bind_some]
          rw [put_n hp6 (by omega)]
          refine Or.inr ⟨d, (_, _, _, _, _), rfl, rfl, p + 1, by omega, rfl, fun q hq => ?_, fun i hi => ?_, ?_⟩
          · by_cases e : q = p
            · subst e; exact upd_s.trans (h1 q hq).symm
            · refine (upd_o e).trans ((f2 q hq).trans ((upd_o e).trans (g1 q hq)))
          · exact (f3 i (by omega)).trans ((upd_o (by omega)).trans (g2 i hi))
          · rw [frs hlt]; exact f4
        · rw [if_pos (show (5 : Int32) ≤ nI _ from by rw [show H p (so (dig t C) p t) = 5 by omega]; exact Int32.le_refl _)]
          refine Or.inr ⟨d, (_, _, _, _, _), rfl, rfl, p + 1, by omega, rfl, g1, g2, ?_⟩
          rw [frs hlt, fr_no (by omega) (turn_no hp6 c5)]
          exact g3) 6 FU (nI 0, best, sets, plots, bp) (by rw [FU_eq]; omega) ⟨0, by omega, rfl, fun _ _ => rfl, fun _ _ => rfl, by rw [Nat.zero_mul]; exact R⟩
    have e1 : lp_X1_choose_4_35 (nI t) (nI (tt_ H (dig t C) t)) (nI n) hs FU 0 best sets plots bp = some r := e1
    unfold sp_X1_choose_4
    rw [if_pos (nI_lt hlt (by omega)), e1]
    exact ⟨_, _, _, _, rfl, q1, q2, q3⟩
/-- the class's choosing: all ways of n turns -/
theorem choose_all {H : Nat → Nat → Nat} {n : Nat} {hs : Nat → Int32} (hH : ∀ p x : Nat, H p x ≤ 5) (h1 : 1 ≤ n) (hn : n ≤ 4) (hhs : ∀ p x : Nat, p < 6 → x < 2 ^ n → hs (p * 16 + x) = nI (H p x)) : CH H n hs sp_X1_choose_4 0 := by
  refine CH_4 hH hn hhs (by omega) (fun g0 => CH_3 hH hn hhs (by omega) (fun g1 => CH_2 hH hn hhs (by omega) (fun g2 => CH_1 hH hn hhs (by omega) (fun g3 => ?_))))
  obtain rfl : n = 4 := by omega
  exact CH_0 hH (by omega)
