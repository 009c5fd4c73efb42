/-! pure: easy steps -/
theorem TT.kind {s : CSt} {t : MSt} (h : TT s t) : s.1 4 = t.2.2 1 0 := h.1
theorem TT.off {s : CSt} {t : MSt} (h : TT s t) : s.1 9 = t.2.2 1 1 := h.2.1.1
theorem TT.boff {s : CSt} {t : MSt} (h : TT s t) : bt (s.1 9) := h.2.1.2.1
theorem TT.year {s : CSt} {t : MSt} (h : TT s t) : ∃ n : Nat, n ≤ 9999 ∧ s.1 10 = nI n ∧ t.2.2 1 2 = nI n := h.2.1.2.2.1
theorem TT.hts {s : CSt} {t : MSt} (h : TT s t) : ∀ p : Nat, p < 6 → ∃ n : Nat, n ≤ 5 ∧ s.2.2.1 1 p = nI n ∧ t.2.2 1 (3 + p) = nI n ∧ ∀ i : Nat, i < n → s.2.2.1 2 (p * 5 + i) = t.2.2 1 (9 + 10 * p + 2 * i) ∧ s.2.2.1 3 (p * 5 + i) = t.2.2 1 (10 + 10 * p + 2 * i) ∧ bt (s.2.2.1 3 (p * 5 + i)) := h.2.1.2.2.2
theorem TT.pulls {s : CSt} {t : MSt} (h : TT s t) : ∀ i : Nat, i < 6 → s.2.2.1 0 i = t.2.2 1 (69 + i) := fun i hi => by have := (h.2.2.1 i hi).1; rwa [Nat.zero_add] at this
theorem TT.bpulls {s : CSt} {t : MSt} (h : TT s t) : ∀ i : Nat, i < 6 → bt (s.2.2.1 0 i) := fun i hi => (h.2.2.1 i hi).2
theorem TT.mems {s : CSt} {t : MSt} (h : TT s t) : ∃ n : Nat, n ≤ 5 ∧ s.1 6 = nI n ∧ t.2.2 1 75 = nI n ∧ ∀ i : Nat, i < n → s.2.2.1 4 i = t.2.2 1 (76 + i) := by
  obtain ⟨n, h1, h2, h3, h4⟩ := h.2.2.2.1
  exact ⟨n, h1, h2, h3, fun i hi => by have := h4 i hi; rwa [Nat.zero_add] at this⟩
theorem TT.notes {s : CSt} {t : MSt} (h : TT s t) : ∃ n : Nat, n ≤ 6 ∧ s.1 7 = nI n ∧ t.2.2 1 81 = nI n ∧ ∀ i : Nat, i < n → yr (s.2.2.1 5 (4 * i + 2)) ∧ ∀ j : Nat, j < 4 → s.2.2.1 5 (4 * i + j) = t.2.2 1 (82 + (4 * i + j)) := by
  obtain ⟨n, h1, h2, h3, h4⟩ := h.2.2.2.2.1
  exact ⟨n, h1, h2, h3, fun i hi => ⟨(h4 i hi).1, fun j hj => by have := (h4 i hi).2 j hj; rwa [Nat.zero_add] at this⟩⟩
theorem TT.marks {s : CSt} {t : MSt} (h : TT s t) : ∃ n : Nat, n ≤ 6 ∧ s.1 8 = nI n ∧ t.2.2 1 106 = nI n ∧ ∀ i : Nat, i < n → bt (s.2.2.1 6 (5 * i + 1)) ∧ ∀ j : Nat, j < 5 → s.2.2.1 6 (5 * i + j) = t.2.2 1 (107 + (5 * i + j)) := by
  obtain ⟨n, h1, h2, h3, h4⟩ := h.2.2.2.2.2.1
  exact ⟨n, h1, h2, h3, fun i hi => ⟨(h4 i hi).1, fun j hj => by have := (h4 i hi).2 j hj; rwa [Nat.zero_add] at this⟩⟩
theorem TT.pasts {s : CSt} {t : MSt} (h : TT s t) : ∃ n : Nat, n ≤ 8 ∧ s.1 5 = nI n ∧ t.2.2 1 137 = nI n ∧ ∀ i : Nat, i < n → SR (s.2.2.2.1 0 i) (s.2.2.2.1 1 i) (s.2.2.2.2.1 0 i) (s.2.2.2.2.1 1 i) (s.2.2.2.2.1 2 i) (t.2.2 1) (138 + 68 * i) := by
  obtain ⟨n, h1, h2, h3, h4⟩ := h.2.2.2.2.2.2
  exact ⟨n, h1, h2, h3, fun i hi => by have := h4 i hi; rwa [Nat.zero_add] at this⟩
theorem CR.bad {s s1 : CSt} {t t1 : MSt} (h : CR s t) (e1 : s1.1 1 = s.1 1 + 1) (e2 : s1.1 2 = s.1 2) (e3 : s1.1 3 = s.1 3) (f1 : t1.2.2 6 0 = t.2.2 6 0 + 1) (f2 : t1.2.2 6 1 = t.2.2 6 1) (f3 : t1.2.2 6 2 = t.2.2 6 2) : CR s1 t1 :=
  ⟨by rw [e1, f1, h.1], by rw [e2, f2, h.2.1], by rw [e3, f3, h.2.2]⟩
theorem CR.full {s s1 : CSt} {t t1 : MSt} (h : CR s t) (e1 : s1.1 1 = s.1 1) (e2 : s1.1 2 = s.1 2) (e3 : s1.1 3 = s.1 3 + 1) (f1 : t1.2.2 6 0 = t.2.2 6 0) (f2 : t1.2.2 6 1 = t.2.2 6 1) (f3 : t1.2.2 6 2 = t.2.2 6 2 + 1) : CR s1 t1 :=
  ⟨by rw [e1, f1, h.1], by rw [e2, f2, h.2.1], by rw [e3, f3, h.2.2]⟩
theorem st_town (p1 : Int32) (s : CSt) (t : MSt) (h : REL s t) : ∃ (r : Int32) (s1 : CSt) (t1 : MSt), S7_town p1 s = some (r, s1) ∧ S8_town p1 t = some (r, t1) ∧ REL s1 t1 := by
  obtain ⟨hT, hK, hC, hF, hX⟩ := h
  unfold S7_town S8_town sp_X7_town sp_X8_town
  by_cases c0 : sp_X8_isKind p1 = 0
  · rw [if_pos (show sp_X7_isLevelKind p1 = 0 from c0), if_pos c0]
    exact ⟨_, _, _, rfl, rfl, hT, hK, hC.bad rfl rfl rfl rfl rfl rfl, hF, hX⟩
  · rw [if_neg (show ¬ sp_X7_isLevelKind p1 = 0 from c0), if_neg c0]
    obtain ⟨r, r1, r2⟩ := storeys_eq (h := s.2.2.1 1) (w := t.2.2 1) (fun p hp => by obtain ⟨n, _, e1, e2, _⟩ := hT.hts p hp; rw [e1, e2])
    obtain ⟨g, g1, g2⟩ := empties (f := t.2.2 1)
    obtain ⟨a, a1, a2⟩ := empty_eq (n := 6) (by omega) (f := s.2.2.1 0)
    obtain ⟨b, b1, b2⟩ := empty_eq (n := 6) (by omega) (f := s.2.2.1 1)
    unfold sp_X6_begin sp_X3_empty
    rw [r1, r2, g1, a1, b1]
    have hg : ∀ j : Nat, j ≠ 0 → j < 682 → upd g 0 p1 j = 0 := fun j h1 h2 => (upd_o h1).trans (g2 j h2)
    refine ⟨_, _, _, rfl, rfl, ?_, hK, hC, hF, hX⟩
    show TR p1 0 0 0 0 0 0 a b _ _ _ _ _ _ _ _ _ _ (upd g 0 p1) 0
    refine ⟨upd_s.symm, ⟨(hg 1 (by omega) (by omega)).symm, bt_0, ⟨0, by omega, nI_0.symm, (hg 2 (by omega) (by omega)).trans nI_0.symm⟩, fun p hp => ⟨0, by omega, (b2 p hp).trans nI_0.symm, (hg _ (by omega) (by omega)).trans nI_0.symm, fun i hi => absurd hi (by omega)⟩⟩, fun i hi => ⟨?_, ?_⟩, ⟨0, by omega, nI_0.symm, (hg _ (by omega) (by omega)).trans nI_0.symm, fun i hi => absurd hi (by omega)⟩, ⟨0, by omega, nI_0.symm, (hg _ (by omega) (by omega)).trans nI_0.symm, fun i hi => absurd hi (by omega)⟩, ⟨0, by omega, nI_0.symm, (hg _ (by omega) (by omega)).trans nI_0.symm, fun i hi => absurd hi (by omega)⟩, ⟨0, by omega, nI_0.symm, (hg _ (by omega) (by omega)).trans nI_0.symm, fun i hi => absurd hi (by omega)⟩⟩
    · rw [a2 i hi, hg _ (by omega) (by omega)]
    · rw [a2 i hi]; exact bt_0
theorem st_pull (p1 p2 : Int32) (s : CSt) (t : MSt) (h : REL s t) : ∃ (r : Int32) (s1 : CSt) (t1 : MSt), S7_pull p1 p2 s = some (r, s1) ∧ S8_pull p1 p2 t = some (r, t1) ∧ REL s1 t1 := by
  obtain ⟨hT, hK, hC, hF, hX⟩ := h
  unfold S7_pull S8_pull sp_X7_pull sp_X8_pull
  by_cases c0 : sp_X8_isPlot p1 = 0
  · rw [if_pos (show sp_X2_within p1 0 5 = 0 from c0), if_pos c0]
    exact ⟨_, _, _, rfl, rfl, hT, hK, hC.bad rfl rfl rfl rfl rfl rfl, hF, hX⟩
  · rw [if_neg (show ¬ sp_X2_within p1 0 5 = 0 from c0), if_neg c0]
    by_cases c1 : sp_X8_isTilt p2 = 0
    · rw [if_pos (show sp_X7_isTilt p2 = 0 from c1), if_pos c1]
      exact ⟨_, _, _, rfl, rfl, hT, hK, hC.bad rfl rfl rfl rfl rfl rfl, hF, hX⟩
    · rw [if_neg (show ¬ sp_X7_isTilt p2 = 0 from c1), if_neg c1]
      obtain ⟨n, _, hn, rfl⟩ := in_nat (lo := 0) (hi := 5) c0 (by omega) (by omega)
      have e : (69 : Int32) + nI n = nI (69 + n) := nI_add 69 n
      rw [e, gi_n (by omega) (by omega), nI_clamp (by omega), put_n (by omega) (by omega), at_n (by omega) (by omega), ← hT.pulls n (by omega)]
      refine ⟨_, _, _, rfl, rfl, ?_, hK, hC, hF, hX⟩
      obtain ⟨h1, h2, h3, h4, h5, h6, h7⟩ := hT
      have o : ∀ j : Nat, j ≠ 69 + n → j ≠ 137 → upd (upd (t.2.2 1) (69 + n) p2) 137 0 j = t.2.2 1 j := fun j a b => (upd_o b).trans (upd_o a)
      show TR (s.1 4) 0 (s.1 6) (s.1 7) (s.1 8) (s.1 9) (s.1 10) (upd (s.2.2.1 0) n p2) (s.2.2.1 1) (s.2.2.1 2) (s.2.2.1 3) (s.2.2.1 4) (s.2.2.1 5) (s.2.2.1 6) (s.2.2.2.1 0) (s.2.2.2.1 1) (s.2.2.2.2.1 0) (s.2.2.2.2.1 1) (s.2.2.2.2.1 2) (upd (upd (t.2.2 1) (69 + n) p2) 137 0) 0
      refine ⟨h1.trans (o 0 (by omega) (by omega)).symm, h2.cong (fun j _ _ => o j (by omega) (by omega)), fun i hi => ?_, h4.cong (fun j _ _ => o j (by omega) (by omega)), h5.cong (fun j _ _ => o j (by omega) (by omega)), h6.cong (fun j _ _ => o j (by omega) (by omega)), ⟨0, by omega, nI_0.symm, upd_s.trans nI_0.symm, fun i hi => absurd hi (by omega)⟩⟩
      by_cases hin : i = n
      · subst hin
        refine ⟨?_, ?_⟩
        · rw [upd_s, Nat.zero_add, upd_o (by omega), upd_s]
        · rw [upd_s]; exact in_tilt c1
      · refine ⟨?_, ?_⟩
        · rw [upd_o hin, o _ (by omega) (by omega)]; exact (h3 i hi).1
        · rw [upd_o hin]; exact (h3 i hi).2
theorem st_member (p1 : Int32) (s : CSt) (t : MSt) (h : REL s t) : ∃ (r : Int32) (s1 : CSt) (t1 : MSt), S7_member p1 s = some (r, s1) ∧ S8_member p1 t = some (r, t1) ∧ REL s1 t1 := by
  obtain ⟨hT, hK, hC, hF, hX⟩ := h
  unfold S7_member S8_member sp_X7_member sp_X8_member
  by_cases c0 : sp_X8_isTilt p1 = 0
  · rw [if_pos (show sp_X7_isTilt p1 = 0 from c0), if_pos c0]
    exact ⟨_, _, _, rfl, rfl, hT, hK, hC.bad rfl rfl rfl rfl rfl rfl, hF, hX⟩
  · rw [if_neg (show ¬ sp_X7_isTilt p1 = 0 from c0), if_neg c0]
    obtain ⟨n, hn, e1, e2, e3⟩ := hT.mems
    simp only [cl_75, cl_137]
    rw [e1, e2]
    by_cases c1 : n < 5
    · have e : (76 : Int32) + nI n = nI (76 + n) := nI_add 76 n
      rw [if_pos (show nI n < 5 from nI_lt (b := 5) c1 (by omega)), if_neg (show ¬ nI n = 5 from fun q => absurd ((nI_eq (b := 5) (by omega) (by omega)).mp q) (by omega)), e, gi_n (by omega) (by omega), put_n (by omega) (by omega), nI_clamp (by omega), nI_1]
      have ew : upd (t.2.2 1) (76 + n) p1 75 = nI n := (upd_o (by omega)).trans e2
      rw [ew, nI_1]
      have er : upd (upd (upd (t.2.2 1) (76 + n) p1) 75 (nI (n + 1))) 137 0 75 = nI (n + 1) := (upd_o (by omega)).trans upd_s
      rw [er, nI_pred]
      refine ⟨_, _, _, rfl, rfl, ?_, hK, hC, hF, hX⟩
      obtain ⟨h1, h2, h3, h4, h5, h6, h7⟩ := hT
      have o : ∀ j : Nat, j ≠ 76 + n → j ≠ 75 → j ≠ 137 → upd (upd (upd (t.2.2 1) (76 + n) p1) 75 (nI (n + 1))) 137 0 j = t.2.2 1 j := fun j a b c => (upd_o c).trans ((upd_o b).trans (upd_o a))
      show TR (s.1 4) 0 (nI (n + 1)) (s.1 7) (s.1 8) (s.1 9) (s.1 10) (s.2.2.1 0) (s.2.2.1 1) (s.2.2.1 2) (s.2.2.1 3) (upd (s.2.2.1 4) n p1) (s.2.2.1 5) (s.2.2.1 6) (s.2.2.2.1 0) (s.2.2.2.1 1) (s.2.2.2.2.1 0) (s.2.2.2.2.1 1) (s.2.2.2.2.1 2) (upd (upd (upd (t.2.2 1) (76 + n) p1) 75 (nI (n + 1))) 137 0) 0
      refine ⟨h1.trans (o 0 (by omega) (by omega) (by omega)).symm, h2.cong (fun j _ _ => o j (by omega) (by omega) (by omega)), h3.cong (fun j _ _ => o j (by omega) (by omega) (by omega)), ⟨n + 1, by omega, rfl, er, fun i hi => ?_⟩, h5.cong (fun j _ _ => o j (by omega) (by omega) (by omega)), h6.cong (fun j _ _ => o j (by omega) (by omega) (by omega)), ⟨0, by omega, nI_0.symm, upd_s.trans nI_0.symm, fun i hi => absurd hi (by omega)⟩⟩
      by_cases hin : i = n
      · subst hin
        rw [upd_s, Nat.zero_add, upd_o (by omega), upd_o (by omega), upd_s]
      · rw [upd_o hin, Nat.zero_add, o _ (by omega) (by omega) (by omega)]; exact e3 i (by omega)
    · obtain rfl : n = 5 := by omega
      rw [if_neg (show ¬ nI 5 < 5 from by decide), if_pos (show nI 5 = 5 from rfl)]
      rw [← e1]
      exact ⟨_, _, _, rfl, rfl, hT, hK, hC.full rfl rfl rfl rfl rfl rfl, hF, hX⟩
theorem st_now (p1 : Int32) (s : CSt) (t : MSt) (h : REL s t) : ∃ (r : Int32) (s1 : CSt) (t1 : MSt), S7_now p1 s = some (r, s1) ∧ S8_now p1 t = some (r, t1) ∧ REL s1 t1 := by
  obtain ⟨hT, hK, hC, hF, hX⟩ := h
  unfold S7_now S8_now sp_X7_now sp_X8_now
  by_cases c0 : sp_X8_in p1 0 3 = 0
  · have n0 : ¬ p1 = 0 := fun q => by subst q; exact absurd c0 (by decide)
    have n1 : ¬ p1 = 1 := fun q => by subst q; exact absurd c0 (by decide)
    have n2 : ¬ p1 = 2 := fun q => by subst q; exact absurd c0 (by decide)
    have n3 : ¬ p1 = 3 := fun q => by subst q; exact absurd c0 (by decide)
    rw [if_pos c0, if_neg n0, if_neg n1, if_neg n2, if_neg n3]
    exact ⟨_, _, _, rfl, rfl, hT, hK, hC.bad rfl rfl rfl rfl rfl rfl, hF, hX⟩
  · rw [if_neg c0]
    obtain ⟨n, _, hn, rfl⟩ := in_nat (lo := 0) (hi := 3) c0 (by omega) (by omega)
    obtain ⟨y, hy, y1, y2⟩ := hT.year
    match n, hn with
    | 0, _ => exact stp rfl rfl (by show t.2.2 1 0 = s.1 4; rw [hT.kind]) hT hK hC hF hX
    | 1, _ => exact stp rfl rfl (by show t.2.2 1 1 = s.1 9; rw [hT.off]) hT hK hC hF hX
    | 2, _ => exact stp rfl rfl (by show t.2.2 1 2 = s.1 10; rw [y1, y2]) hT hK hC hF hX
    | 3, _ =>
      rw [if_pos (show nI 3 = 3 from rfl)]
      simp only [cl_2]
      rw [y2, y1, pull_eq (pulls := s.2.2.1 0) (by omega) hT.pulls]
      rw [← y1]
      exact ⟨_, _, _, rfl, rfl, hT, hK, hC, hF, hX⟩
theorem st_status (p1 : Int32) (s : CSt) (t : MSt) (h : REL s t) : ∃ (r : Int32) (s1 : CSt) (t1 : MSt), S7_status p1 s = some (r, s1) ∧ S8_status p1 t = some (r, t1) ∧ REL s1 t1 := by
  obtain ⟨hT, hK, hC, hF, hX⟩ := h
  unfold S7_status S8_status sp_X7_status sp_X8_status
  by_cases c0 : sp_X8_in p1 0 2 = 0
  · have n0 : ¬ p1 = 0 := fun q => by subst q; exact absurd c0 (by decide)
    have n1 : ¬ p1 = 1 := fun q => by subst q; exact absurd c0 (by decide)
    have n2 : ¬ p1 = 2 := fun q => by subst q; exact absurd c0 (by decide)
    rw [if_pos c0, if_neg n0, if_neg n1, if_neg n2]
    exact ⟨_, _, _, rfl, rfl, hT, hK, hC.bad rfl rfl rfl rfl rfl rfl, hF, hX⟩
  · rw [if_neg c0]
    obtain ⟨n, _, hn, rfl⟩ := in_nat (lo := 0) (hi := 2) c0 (by omega) (by omega)
    match n, hn with
    | 0, _ => exact stp rfl rfl (by show t.2.2 6 0 = s.1 1; rw [hC.1]) hT hK hC hF hX
    | 1, _ => exact stp rfl rfl (by show t.2.2 6 1 = s.1 2; rw [hC.2.1]) hT hK hC hF hX
    | 2, _ => exact stp rfl rfl (by show t.2.2 6 2 = s.1 3; rw [hC.2.2]) hT hK hC hF hX
