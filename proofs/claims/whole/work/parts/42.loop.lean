/-! pure: loops in step -/
theorem lk {σ τ ρ κ : Type} {L : Nat → σ → Option ρ} {M : Nat → τ → Option κ} (R : Nat → σ → τ → Prop) (Q : ρ → κ → Prop)
    (h : ∀ (d fu : Nat) (s : σ) (t : τ), d ≤ fu → R d s t → (∃ r k, L (fu + 1) s = some r ∧ M (fu + 1) t = some k ∧ Q r k) ∨ (∃ e s1 t1, e + 1 = d ∧ L (fu + 1) s = L fu s1 ∧ M (fu + 1) t = M fu t1 ∧ R e s1 t1)) :
    ∀ (d fu : Nat) (s : σ) (t : τ), d < fu → R d s t → ∃ r k, L fu s = some r ∧ M fu t = some k ∧ Q r k := by
  intro d
  induction d with
  | zero =>
    intro fu s t hd hR
    obtain ⟨f, rfl⟩ : ∃ f, fu = f + 1 := ⟨fu - 1, by omega⟩
    rcases h 0 f s t (by omega) hR with h1 | ⟨e, s1, t1, he, _⟩
    · exact h1
    · omega
  | succ d ih =>
    intro fu s t hd hR
    obtain ⟨f, rfl⟩ : ∃ f, fu = f + 1 := ⟨fu - 1, by omega⟩
    rcases h (d + 1) f s t (by omega) hR with h1 | ⟨e, s1, t1, he, e1, e2, h2⟩
    · exact h1
    · rw [e1, e2]
      obtain rfl : e = d := by omega
      exact ih f s1 t1 (by omega) h2
theorem lk1 {σ ρ : Type} {L : Nat → σ → Option ρ} (R : Nat → σ → Prop) (Q : ρ → Prop)
    (h : ∀ (d fu : Nat) (s : σ), d ≤ fu → R d s → (∃ r, L (fu + 1) s = some r ∧ Q r) ∨ (∃ e s1, e + 1 = d ∧ L (fu + 1) s = L fu s1 ∧ R e s1)) :
    ∀ (d fu : Nat) (s : σ), d < fu → R d s → ∃ r, L fu s = some r ∧ Q r := by
  intro d fu s hd hR
  obtain ⟨r, k, h1, h2, h3⟩ := lk (L := L) (M := L) (fun d s t => s = t ∧ R d s) (fun r k => r = k ∧ Q r) (by
    rintro d fu s t hd ⟨rfl, hR⟩
    rcases h d fu s hd hR with ⟨r, h1, h2⟩ | ⟨e, s1, he, e1, h2⟩
    · exact Or.inl ⟨r, r, h1, h1, rfl, h2⟩
    · exact Or.inr ⟨e, s1, s1, he, e1, e1, rfl, h2⟩) d fu s s hd ⟨rfl, hR⟩
  exact ⟨r, h1, h3.2⟩
theorem copd {n0 n2 a b N : Nat} {f g : Nat → Int32} (h1 : a + N ≤ n0) (h2 : b + N ≤ n2) (hn0 : n0 < 2 ^ 30) (hn2 : n2 < 2 ^ 30) (hN : N < 3000) : ∃ g' : Nat → Int32, sp_X8_copies_d n0 n2 (nI a) (nI b) (nI N) f g = some g' ∧ (∀ j : Nat, j < N → g' (b + j) = f (a + j)) ∧ ∀ j : Nat, j < b ∨ b + N ≤ j → g' j = g j := by
  obtain ⟨r, e, q⟩ := lk1 (L := fun fu (s : Int32 × (Nat → Int32)) => lp_X8_copies_d_3 n0 (nI a) n2 (nI b) (nI N) f fu s.1 s.2)
    (fun d s => ∃ k : Nat, k + d = N ∧ s.1 = nI k ∧ (∀ j : Nat, j < k → s.2 (b + j) = f (a + j)) ∧ ∀ j : Nat, j < b ∨ b + k ≤ j → s.2 j = g j)
    (fun r => (∀ j : Nat, j < N → r.2 (b + j) = f (a + j)) ∧ ∀ j : Nat, j < b ∨ b + N ≤ j → r.2 j = g j) (by
    rintro d fu ⟨x, w⟩ hd ⟨k, hk, e, p1, p2⟩
    simp only at e p1 p2
    subst e
    cases d with
    | zero =>
      obtain rfl : k = N := by omega
      refine Or.inl ⟨(nI k, w), ?_, p1, p2⟩
      show lp_X8_copies_d_3 n0 (nI a) n2 (nI b) (nI k) f (fu + 1) (nI k) w = _
      rw [lp_X8_copies_d_3, if_pos (Int32.le_refl _)]
    | succ d =>
      refine Or.inr ⟨d, (nI (k + 1), upd w (b + k) (f (a + k))), rfl, ?_, k + 1, by omega, rfl, ?_, ?_⟩
      · show lp_X8_copies_d_3 n0 (nI a) n2 (nI b) (nI N) f (fu + 1) (nI k) w = lp_X8_copies_d_3 n0 (nI a) n2 (nI b) (nI N) f fu (nI (k + 1)) (upd w (b + k) (f (a + k)))
        rw [lp_X8_copies_d_3, if_neg (nI_ge (by omega) (by omega)), nI_add, nI_add, gi_n (by omega) (by omega), gi_n (by omega) (by omega), nI_clamp (by omega), nI_clamp (by omega), nI_1]
      · intro j hj
        by_cases hjk : j = k
        · subst hjk; exact upd_s
        · exact (upd_o (by omega)).trans (p1 j (by omega))
      · intro j hj
        exact (upd_o (by omega)).trans (p2 j (by omega))) N FU (nI 0, g) (by rw [FU_eq]; exact hN) ⟨0, by omega, rfl, fun j hj => absurd hj (by omega), fun j _ => rfl⟩
  refine ⟨r.2, ?_, q⟩
  have e : lp_X8_copies_d_3 n0 (nI a) n2 (nI b) (nI N) f FU 0 g = some r := e
  unfold sp_X8_copies_d
  rw [e]; rfl
theorem cops {n0 a b N : Nat} {f : Nat → Int32} (h1 : a + N ≤ n0) (h2 : b + N ≤ n0) (hn0 : n0 < 2 ^ 30) (hab : b ≤ a ∨ a + N ≤ b) (hN : N < 3000) : ∃ g' : Nat → Int32, sp_X8_copies_s n0 (nI a) (nI b) (nI N) f = some g' ∧ (∀ j : Nat, j < N → g' (b + j) = f (a + j)) ∧ ∀ j : Nat, j < b ∨ b + N ≤ j → g' j = f j := by
  obtain ⟨r, e, q⟩ := lk1 (L := fun fu (s : Int32 × (Nat → Int32)) => lp_X8_copies_s_3 n0 (nI a) (nI b) (nI N) fu s.1 s.2)
    (fun d s => ∃ k : Nat, k + d = N ∧ s.1 = nI k ∧ (∀ j : Nat, j < k → s.2 (b + j) = f (a + j)) ∧ ∀ j : Nat, j < b ∨ b + k ≤ j → s.2 j = f j)
    (fun r => (∀ j : Nat, j < N → r.2 (b + j) = f (a + j)) ∧ ∀ j : Nat, j < b ∨ b + N ≤ j → r.2 j = f j) (by
    rintro d fu ⟨x, w⟩ hd ⟨k, hk, e, p1, p2⟩
    simp only at e p1 p2
    subst e
    cases d with
    | zero =>
      obtain rfl : k = N := by omega
      refine Or.inl ⟨(nI k, w), ?_, p1, p2⟩
      show lp_X8_copies_s_3 n0 (nI a) (nI b) (nI k) (fu + 1) (nI k) w = _
      rw [lp_X8_copies_s_3, if_pos (Int32.le_refl _)]
    | succ d =>
      have ea : w (a + k) = f (a + k) := p2 (a + k) (by omega)
      refine Or.inr ⟨d, (nI (k + 1), upd w (b + k) (w (a + k))), rfl, ?_, k + 1, by omega, rfl, ?_, ?_⟩
      · show lp_X8_copies_s_3 n0 (nI a) (nI b) (nI N) (fu + 1) (nI k) w = lp_X8_copies_s_3 n0 (nI a) (nI b) (nI N) fu (nI (k + 1)) (upd w (b + k) (w (a + k)))
        rw [lp_X8_copies_s_3, if_neg (nI_ge (by omega) (by omega)), nI_add, nI_add, gi_n (by omega) (by omega), gi_n (by omega) (by omega), nI_clamp (by omega), nI_clamp (by omega), nI_1]
      · intro j hj
        by_cases hjk : j = k
        · subst hjk; exact upd_s.trans ea
        · exact (upd_o (by omega)).trans (p1 j (by omega))
      · intro j hj
        exact (upd_o (by omega)).trans (p2 j (by omega))) N FU (nI 0, f) (by rw [FU_eq]; exact hN) ⟨0, by omega, rfl, fun j hj => absurd hj (by omega), fun j _ => rfl⟩
  refine ⟨r.2, ?_, q⟩
  have e : lp_X8_copies_s_3 n0 (nI a) (nI b) (nI N) FU 0 f = some r := e
  unfold sp_X8_copies_s
  rw [e]; rfl
theorem empties {f : Nat → Int32} : ∃ g : Nat → Int32, sp_X8_empties f = some g ∧ ∀ j : Nat, j < 682 → g j = 0 := by
  obtain ⟨r, e, q⟩ := lk1 (L := fun fu (s : Int32 × (Nat → Int32)) => lp_X8_empties_2 fu s.1 s.2)
    (fun d s => ∃ k : Nat, k + d = 682 ∧ s.1 = nI k ∧ ∀ j : Nat, j < k → s.2 j = 0) (fun r => ∀ j : Nat, j < 682 → r.2 j = 0) (by
    rintro d fu ⟨x, w⟩ hd ⟨k, hk, e, p1⟩
    simp only at e p1
    subst e
    cases d with
    | zero =>
      obtain rfl : k = 682 := by omega
      refine Or.inl ⟨(nI 682, w), ?_, p1⟩
      show lp_X8_empties_2 (fu + 1) (nI 682) w = _
      rw [lp_X8_empties_2, if_pos (show (682 : Int32) ≤ nI 682 from Int32.le_refl _)]
    | succ d =>
      refine Or.inr ⟨d, (nI (k + 1), upd w k 0), rfl, ?_, k + 1, by omega, rfl, ?_⟩
      · show lp_X8_empties_2 (fu + 1) (nI k) w = lp_X8_empties_2 fu (nI (k + 1)) (upd w k 0)
        rw [lp_X8_empties_2, if_neg (show ¬ (682 : Int32) ≤ nI _ from nI_ge (b := 682) (by omega) (by omega)), gi_n (by omega) (by omega), nI_clamp (by omega), nI_1]
      · intro j hj
        by_cases hjk : j = k
        · subst hjk; exact upd_s
        · exact (upd_o (by omega)).trans (p1 j (by omega))) 682 FU (nI 0, f) (by rw [FU_eq]; omega) ⟨0, by omega, rfl, fun j hj => absurd hj (by omega)⟩
  refine ⟨r.2, ?_, q⟩
  have e : lp_X8_empties_2 FU 0 f = some r := e
  unfold sp_X8_empties
  rw [e]; rfl
theorem empty_eq {n : Nat} (hn : n < 3000) {f : Nat → Int32} : ∃ g : Nat → Int32, sp_X2_empty n f = some g ∧ ∀ j : Nat, j < n → g j = 0 := by
  obtain ⟨r, e, q⟩ := lk1 (L := fun fu (s : Int32 × (Nat → Int32)) => lp_X2_empty_6 n fu s.1 s.2)
    (fun d s => ∃ k : Nat, k + d = n ∧ s.1 = nI k ∧ ∀ j : Nat, j < k → s.2 j = 0) (fun r => ∀ j : Nat, j < n → r.2 j = 0) (by
    rintro d fu ⟨x, w⟩ hd ⟨k, hk, e, p1⟩
    simp only at e p1
    subst e
    cases d with
    | zero =>
      obtain rfl : k = n := by omega
      refine Or.inl ⟨(nI k, w), ?_, p1⟩
      show lp_X2_empty_6 k (fu + 1) (nI k) w = _
      rw [lp_X2_empty_6, if_pos (show Int32.ofNat k ≤ nI k from Int32.le_refl _)]
    | succ d =>
      refine Or.inr ⟨d, (nI (k + 1), upd w k 0), rfl, ?_, k + 1, by omega, rfl, ?_⟩
      · show lp_X2_empty_6 n (fu + 1) (nI k) w = lp_X2_empty_6 n fu (nI (k + 1)) (upd w k 0)
        rw [lp_X2_empty_6, if_neg (show ¬ Int32.ofNat n ≤ nI k from nI_ge (by omega) (by omega)), gi_n (by omega) (by omega), nI_clamp (by omega), nI_1]
      · intro j hj
        by_cases hjk : j = k
        · subst hjk; exact upd_s
        · exact (upd_o (by omega)).trans (p1 j (by omega))) n FU (nI 0, f) (by rw [FU_eq]; exact hn) ⟨0, by omega, rfl, fun j hj => absurd hj (by omega)⟩
  refine ⟨r.2, ?_, q⟩
  have e : lp_X2_empty_6 n FU 0 f = some r := e
  unfold sp_X2_empty
  rw [e]; rfl
theorem storeys_eq {h w : Nat → Int32} (H : ∀ p : Nat, p < 6 → h p = w (3 + p)) : ∃ r : Int32, sp_X3_storeys h = some r ∧ sp_X8_storeys w = some r := by
  obtain ⟨r, k, e1, e2, q⟩ := lk (L := fun fu (s : Int32 × Int32) => lp_X3_storeys_4 h fu s.1 s.2) (M := fun fu (s : Int32 × Int32) => lp_X8_storeys_4 w fu s.1 s.2)
    (fun d s t => s = t ∧ ∃ k : Nat, k + d = 6 ∧ s.2 = nI k) (fun r k => r.1 = k.1) (by
    rintro d fu ⟨x, y⟩ t hd ⟨rfl, k, hk, e⟩
    simp only at e
    subst e
    cases d with
    | zero =>
      obtain rfl : k = 6 := by omega
      refine Or.inl ⟨(x, nI 6), (x, nI 6), ?_, ?_, rfl⟩
      · show lp_X3_storeys_4 h (fu + 1) x (nI 6) = _
        rw [lp_X3_storeys_4, if_pos (show (6 : Int32) ≤ nI 6 from Int32.le_refl _)]
      · show lp_X8_storeys_4 w (fu + 1) x (nI 6) = _
        rw [lp_X8_storeys_4, if_pos (show (6 : Int32) ≤ nI 6 from Int32.le_refl _)]
    | succ d =>
      refine Or.inr ⟨d, (x + h k, nI (k + 1)), (x + h k, nI (k + 1)), rfl, ?_, ?_, rfl, k + 1, by omega, rfl⟩
      · show lp_X3_storeys_4 h (fu + 1) x (nI k) = lp_X3_storeys_4 h fu (x + h k) (nI (k + 1))
        rw [lp_X3_storeys_4, if_neg (show ¬ (6 : Int32) ≤ nI _ from nI_ge (b := 6) (by omega) (by omega)), nI_1]
        unfold sp_X3_height
        rw [at_n (by omega) (by omega)]
      · show lp_X8_storeys_4 w (fu + 1) x (nI k) = lp_X8_storeys_4 w fu (x + h k) (nI (k + 1))
        have e3 : (3 : Int32) + nI k = nI (3 + k) := nI_add 3 k
        rw [lp_X8_storeys_4, if_neg (show ¬ (6 : Int32) ≤ nI _ from nI_ge (b := 6) (by omega) (by omega)), nI_1, e3, gi_n (by omega) (by omega), nI_clamp (by omega), H k (by omega)]) 6 FU (0, 0) (0, 0) (by rw [FU_eq]; omega) ⟨rfl, 0, by omega, rfl⟩
  have e1 : lp_X3_storeys_4 h FU 0 0 = some r := e1
  have e2 : lp_X8_storeys_4 w FU 0 0 = some k := e2
  refine ⟨r.1, ?_, ?_⟩
  · unfold sp_X3_storeys; rw [e1]; rfl
  · unfold sp_X8_storeys; rw [e2, q]; rfl
theorem pull_eq {n : Nat} {pulls w : Nat → Int32} (hn : n < 2 ^ 31) (hp : ∀ i : Nat, i < 6 → pulls i = w (69 + i)) : sp_X8_pullIn (nI n) w = some (sp_X6_pullOf (nI n) pulls) := by
  have e : nI n - nI n / 6 * 6 = nI (n % 6) := pk_rem (d := 6) hn (by omega) (by omega)
  have h6 : n % 6 < 6 := Nat.mod_lt _ (by omega)
  have e2 : (69 : Int32) + nI (n % 6) = nI (69 + n % 6) := nI_add 69 (n % 6)
  unfold sp_X8_pullIn sp_X6_pullOf
  rw [e, e2, gi_n (by omega) (by omega), nI_clamp (by omega), at_n h6 (by omega), hp _ h6]
theorem bt_pull {n : Nat} {pulls : Nat → Int32} (hn : n < 2 ^ 31) (hp : ∀ i : Nat, i < 6 → bt (pulls i)) : bt (sp_X6_pullOf (nI n) pulls) := by
  have e : nI n - nI n / 6 * 6 = nI (n % 6) := pk_rem (d := 6) hn (by omega) (by omega)
  have h6 : n % 6 < 6 := Nat.mod_lt _ (by omega)
  unfold sp_X6_pullOf
  rw [e, at_n h6 (by omega)]
  exact hp _ h6
theorem passes_eq {n : Nat} {pulls w : Nat → Int32} (hn : n < 2 ^ 31) (hy : w 2 = nI n) (hp : ∀ i : Nat, i < 6 → pulls i = w (69 + i)) : sp_X8_passes w = some (upd (upd w 1 (sp_X6_offBehind (nI n) (w 1) (w 0) pulls)) 2 (nI (n + 1))) := by
  unfold sp_X8_passes sp_X6_offBehind
  simp only [cl_0, cl_1, cl_2]
  rw [hy, pull_eq hn hp, beh_eq (yr_n hn)]
  simp only [Option.bind_some]
  rw [upd_o (show (2 : Nat) ≠ 1 by omega), hy, nI_1]
theorem bt_offBehind {n : Nat} {o k : Int32} {pulls : Nat → Int32} (hn : n < 2 ^ 31) (ho : bt o) (hp : ∀ i : Nat, i < 6 → bt (pulls i)) : bt (sp_X6_offBehind (nI n) o k pulls) := by
  unfold sp_X6_offBehind
  rw [beh_eq (yr_n hn)]
  exact bt_beh ho (bt_pull hn hp)
