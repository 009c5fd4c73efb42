/-! pure: votes, what it was, what it will be -/
theorem lt1_le0 (x : Int32) : x < 1 ↔ x ≤ 0 := by rw [Int32.lt_iff_toInt_lt, Int32.le_iff_toInt_le, ti_0, ti_1]; omega
theorem n76 (p : Nat) : (76 : Int32) + nI p = nI (76 + p) := nI_add 76 p
theorem votes_eq {n : Nat} {views w : Nat → Int32} (off : Int32) (hn : n ≤ 5) (hw : w 75 = nI n) (hv : ∀ i : Nat, i < n → views i = w (76 + i)) : ∃ v : Nat, v < 64 ∧ sp_X7_yesVotes off (nI n) views = some (nI v) ∧ sp_X8_votes off w = some (nI v) := by
  obtain ⟨r, r', e1, e2, v, hv1, q1, q2⟩ := lk (L := fun fu (s : Int32 × Int32) => lp_X7_yesVotes_4 off (nI n) views fu s.1 s.2) (M := fun fu (s : Int32 × Int32) => lp_X8_votes_4 off w fu s.1 s.2)
    (fun d s t' => s = t' ∧ ∃ i v : Nat, i + d = n ∧ s.2 = nI i ∧ v < 64 ∧ s.1 = nI v) (fun r k => ∃ v : Nat, v < 64 ∧ r.1 = nI v ∧ k.1 = nI v) (by
    rintro d fu ⟨a, y⟩ s' hd ⟨rfl, i, v, hi, e, hv1, ea⟩
    simp only at e ea
    subst e; subst ea
    dsimp only
    rw [lp_X7_yesVotes_4, lp_X8_votes_4]
    simp only [cl_75, lt_, hw]
    cases d with
    | zero =>
      obtain rfl : i = n := by omega
      rw [if_pos (Int32.le_refl _), if_pos (Int32.le_refl _)]
      exact Or.inl ⟨_, _, rfl, rfl, v, hv1, rfl, rfl⟩
    | succ d =>
      rw [if_neg (nI_ge (by omega) (by omega)), if_neg (nI_ge (by omega) (by omega)), n76, gi_n (by omega) (by omega), nI_clamp (by omega), at_n (by omega) (by omega), hv i (by omega), nI_1]
      by_cases c : w (76 + i) + off < 1
      · rw [if_pos c, if_pos ((lt1_le0 _).mp c), or0]
        exact Or.inr ⟨d, (nI v, nI (i + 1)), (nI v, nI (i + 1)), rfl, rfl, rfl, rfl, i + 1, v, by omega, rfl, hv1, rfl⟩
      · obtain ⟨b1, b2⟩ := bit_or v hv1 i (by omega)
        rw [if_neg c, if_neg (fun q => c ((lt1_le0 _).mpr q)), b1]
        exact Or.inr ⟨d, (nI (v ||| 2 ^ i), nI (i + 1)), (nI (v ||| 2 ^ i), nI (i + 1)), rfl, rfl, rfl, rfl, i + 1, v ||| 2 ^ i, by omega, rfl, b2, rfl⟩) n FU (nI 0, nI 0) (nI 0, nI 0) (by rw [FU_eq]; omega) ⟨rfl, 0, 0, by omega, rfl, by omega, rfl⟩
  have e1 : lp_X7_yesVotes_4 off (nI n) views FU 0 0 = some r := e1
  have e2 : lp_X8_votes_4 off w FU 0 0 = some r' := e2
  refine ⟨v, hv1, ?_, ?_⟩
  · unfold sp_X7_yesVotes; rw [e1, ← q1]; rfl
  · unfold sp_X8_votes; rw [e2, ← q2]; rfl
theorem carries_eq {v n : Nat} {w : Nat → Int32} (hv : v < 64) (hw : w 75 = nI n) : sp_X8_isCarried (nI v) w = some (sp_X7_carries (nI v) (nI n)) := by
  unfold sp_X8_isCarried sp_X7_carries
  rw [ones_eq hv]
  simp only [Option.bind_some, cl_75, hw]
  by_cases c : 2 * sp_J6_bitCount_0f7a4 (nI v) ≤ nI n
  · rw [if_pos c, if_pos c]
  · rw [if_neg c, if_neg c]
theorem st_council (p1 : Int32) (s : CSt) (t : MSt) (h : REL s t) : ∃ (r : Int32) (s1 : CSt) (t1 : MSt), S7_council p1 s = some (r, s1) ∧ S8_council p1 t = some (r, t1) ∧ REL s1 t1 := by
  obtain ⟨hT, hK, hC, hF, hX⟩ := h
  obtain ⟨n, hn, m1, m2, m3⟩ := hT.mems
  obtain ⟨v, hv, v1, v2⟩ := votes_eq (s.1 9) hn m2 m3
  obtain ⟨u, hu, u1, u2⟩ := votes_eq 0 hn m2 m3
  unfold S7_council S8_council sp_X7_council sp_X8_council
  rw [m1, v1]
  simp only [Option.bind_some]
  by_cases c0 : sp_X8_in p1 0 2 = 0
  · have n0 : ¬ p1 = 0 := fun q => by subst q; exact absurd c0 (by decide)
    have n1 : ¬ p1 = 1 := fun q => by subst q; exact absurd c0 (by decide)
    have n2 : ¬ p1 = 2 := fun q => by subst q; exact absurd c0 (by decide)
    rw [if_pos c0, if_neg n0, if_neg n1, if_neg n2]
    exact ⟨_, _, _, rfl, rfl, hT, hK, hC.bad rfl rfl rfl rfl rfl rfl, hF, hX⟩
  · rw [if_neg c0]
    simp only [cl_1]
    rw [← hT.off, v2]
    obtain ⟨q, _, hq, rfl⟩ := in_nat (lo := 0) (hi := 2) c0 (by omega) (by omega)
    simp only [Option.bind_some]
    match q, hq with
    | 0, _ =>
      rw [if_pos (show nI 0 = 0 from rfl), if_pos (show nI 0 = 0 from rfl)]
      exact ⟨_, _, _, rfl, rfl, hT, hK, hC, hF, hX⟩
    | 1, _ =>
      rw [if_neg (show ¬ nI 1 = 0 from by decide), if_neg (show ¬ nI 1 = 0 from by decide), if_pos (show nI 1 = 1 from rfl), if_pos (show nI 1 = 1 from rfl), carries_eq hv m2]
      simp only [Option.bind_some]
      by_cases c : sp_X7_carries (nI v) (nI n) = 0
      · rw [if_pos c, if_pos c]; exact ⟨_, _, _, rfl, rfl, hT, hK, hC, hF, hX⟩
      · rw [if_neg c, if_neg c]; exact ⟨_, _, _, rfl, rfl, hT, hK, hC, hF, hX⟩
    | 2, _ =>
      rw [if_neg (show ¬ nI 2 = 0 from by decide), if_neg (show ¬ nI 2 = 0 from by decide), if_neg (show ¬ nI 2 = 1 from by decide), if_neg (show ¬ nI 2 = 1 from by decide), if_pos (show nI 2 = 2 from rfl), u1, u2]
      exact ⟨_, _, _, rfl, rfl, hT, hK, hC, hF, hX⟩
theorem bit_xor : ∀ v : Nat, v < 64 → ∀ k : Nat, k < 6 → nI v ^^^ ((1 : Int32) <<< (nI k &&& 31)) = nI (v ^^^ 2 ^ k) ∧ v ^^^ 2 ^ k < 64 := by decide +kernel
theorem o9 : ∀ j : Nat, j < 19 → ¬ (9 : Int32) < nI j + -9 ∧ ¬ (10 : Int32) ≤ nI j + -9 := by decide +kernel
theorem o9s (j : Nat) : nI j + -9 + 1 = nI (j + 1) + -9 := by
  rw [Int32.add_assoc, Int32.add_comm (-9) 1, ← Int32.add_assoc, nI_1]
theorem power_eq {n m : Nat} {views w : Nat → Int32} (hn : n ≤ 5) (hm : m < n) (hw : w 75 = nI n) (hv : ∀ i : Nat, i < n → views i = w (76 + i)) : ∃ r r' : Int32 × Int32, lp_X7_power_29 (nI m) (nI n) views FU 0 (-9) = some r ∧ lp_X8_power_27 (nI m) w FU 0 (-9) = some r' ∧ r.1 = r'.1 := by
  refine lk (L := fun fu (s : Int32 × Int32) => lp_X7_power_29 (nI m) (nI n) views fu s.1 s.2) (M := fun fu (s : Int32 × Int32) => lp_X8_power_27 (nI m) w fu s.1 s.2)
    (fun d s t' => s = t' ∧ ∃ i : Nat, i + d = 19 ∧ s.2 = nI i + -9) (fun r k => r.1 = k.1) (by
    rintro d fu ⟨a, y⟩ s' hd ⟨rfl, i, hi, e⟩
    simp only at e
    subst e
    dsimp only
    rw [lp_X7_power_29, lp_X8_power_27]
    cases d with
    | zero =>
      obtain rfl : i = 19 := by omega
      rw [if_pos (show (9 : Int32) < nI 19 + -9 from by decide), if_pos (show (10 : Int32) ≤ nI 19 + -9 from by decide)]
      exact Or.inl ⟨_, _, rfl, rfl, rfl⟩
    | succ d =>
      obtain ⟨o1, o2⟩ := o9 i (by omega)
      obtain ⟨v, hv1, v1, v2⟩ := votes_eq (nI i + -9) hn hw hv
      obtain ⟨b1, b2⟩ := bit_xor v hv1 m (by omega)
      rw [if_neg o1, if_neg o2, v1, v2]
      simp only [Option.bind_some, b1, lt_]
      rw [carries_eq hv1 hw, carries_eq b2 hw]
      simp only [Option.bind_some, o9s]
      by_cases c : sp_X7_carries (nI v) (nI n) = sp_X7_carries (nI (v ^^^ 2 ^ m)) (nI n)
      · rw [if_pos c, if_pos c, Int32.add_zero]
        exact Or.inr ⟨d, (a, nI (i + 1) + -9), (a, nI (i + 1) + -9), rfl, rfl, rfl, rfl, i + 1, by omega, rfl⟩
      · rw [if_neg c, if_neg c]
        exact Or.inr ⟨d, (a + 1, nI (i + 1) + -9), (a + 1, nI (i + 1) + -9), rfl, rfl, rfl, rfl, i + 1, by omega, rfl⟩) 19 FU (0, -9) (0, -9) (by rw [FU_eq]; omega) ⟨rfl, 0, by omega, by decide⟩
theorem st_power (p1 : Int32) (s : CSt) (t : MSt) (h : REL s t) : ∃ (r : Int32) (s1 : CSt) (t1 : MSt), S7_power p1 s = some (r, s1) ∧ S8_power p1 t = some (r, t1) ∧ REL s1 t1 := by
  obtain ⟨hT, hK, hC, hF, hX⟩ := h
  obtain ⟨n, hn, m1, m2, m3⟩ := hT.mems
  unfold S7_power S8_power sp_X7_power sp_X8_power
  simp only [cl_75, m1, m2, in_eq]
  by_cases c0 : sp_X8_in p1 0 (nI n - 1) = 0
  · rw [if_pos c0, if_pos c0]
    exact ⟨_, _, _, rfl, rfl, hT, hK, hC.bad rfl rfl rfl rfl rfl rfl, hF, hX⟩
  · rw [if_neg c0, if_neg c0]
    obtain ⟨m, hm, rfl⟩ := in_below (by omega) c0
    obtain ⟨r, r', e1, e2, q⟩ := power_eq hn hm m2 m3
    rw [e1, e2]
    exact stp rfl rfl (by show r'.1 = r.1; rw [q]) hT hK hC hF hX
theorem built_eq {kd a : Int32} {pulls w : Nat → Int32} (hp : ∀ i : Nat, i < 6 → pulls i = w (69 + i)) : ∃ r r' : Int32 × Int32 × Int32, lp_X7_built_29 kd a pulls FU 0 0 0 = some r ∧ lp_X8_built_27 kd a w FU 0 0 0 = some r' ∧ r.1 = r'.1 := by
  refine lk (L := fun fu (s : Int32 × Int32 × Int32) => lp_X7_built_29 kd a pulls fu s.1 s.2.1 s.2.2) (M := fun fu (s : Int32 × Int32 × Int32) => lp_X8_built_27 kd a w fu s.1 s.2.1 s.2.2)
    (fun d s t' => s = t' ∧ ∃ i : Nat, i + d = 30 ∧ s.2.2 = nI i) (fun r k => r.1 = k.1) (by
    rintro d fu ⟨x, o, y⟩ s' hd ⟨rfl, i, hi, e⟩
    simp only at e
    subst e
    dsimp only
    rw [lp_X7_built_29, lp_X8_built_27]
    cases d with
    | zero =>
      obtain rfl : i = 30 := by omega
      rw [if_pos (show (30 : Int32) ≤ nI 30 from by decide), if_pos (show (30 : Int32) ≤ nI 30 from by decide)]
      exact Or.inl ⟨_, _, rfl, rfl, rfl⟩
    | succ d =>
      rw [if_neg (show ¬ (30 : Int32) ≤ nI _ from nI_ge (b := 30) (by omega) (by omega)), if_neg (show ¬ (30 : Int32) ≤ nI _ from nI_ge (b := 30) (by omega) (by omega)), pull_eq (by omega) hp, beh_eq (yr_n (by omega))]
      simp only [Option.bind_some, lt_, nI_1]
      by_cases c : o = a
      · rw [if_pos c, if_pos c]
        exact Or.inr ⟨d, (_, _, _), (_, _, _), rfl, rfl, rfl, rfl, i + 1, by omega, rfl⟩
      · rw [if_neg c, if_neg c, or0]
        exact Or.inr ⟨d, (_, _, _), (_, _, _), rfl, rfl, rfl, rfl, i + 1, by omega, rfl⟩) 30 FU (0, 0, nI 0) (0, 0, nI 0) (by rw [FU_eq]; omega) ⟨rfl, 0, by omega, rfl⟩
theorem st_built (p1 p2 : Int32) (s : CSt) (t : MSt) (h : REL s t) : ∃ (r : Int32) (s1 : CSt) (t1 : MSt), S7_built p1 p2 s = some (r, s1) ∧ S8_built p1 p2 t = some (r, t1) ∧ REL s1 t1 := by
  obtain ⟨hT, hK, hC, hF, hX⟩ := h
  unfold S7_built S8_built sp_X7_built sp_X8_built
  by_cases c0 : sp_X8_isKind p1 = 0
  · rw [if_pos (show sp_X7_isLevelKind p1 = 0 from c0), if_pos c0]
    exact ⟨_, _, _, rfl, rfl, hT, hK, hC.bad rfl rfl rfl rfl rfl rfl, hF, hX⟩
  · rw [if_neg (show ¬ sp_X7_isLevelKind p1 = 0 from c0), if_neg c0]
    by_cases c1 : sp_X8_isTilt p2 = 0
    · rw [if_pos (show sp_X7_isTilt p2 = 0 from c1), if_pos c1]
      exact ⟨_, _, _, rfl, rfl, hT, hK, hC.bad rfl rfl rfl rfl rfl rfl, hF, hX⟩
    · rw [if_neg (show ¬ sp_X7_isTilt p2 = 0 from c1), if_neg c1]
      obtain ⟨r, r', e1, e2, q⟩ := built_eq (kd := p1) (a := p2) hT.pulls
      rw [e1, e2]
      exact stp rfl rfl (by show r'.1 = r.1; rw [q]) hT hK hC hF hX
theorem times_eq {kd off : Int32} {n y : Nat} {w : Nat → Int32} {z : Int64} (hn : n ≤ 60) (hy : y ≤ 9999) (h0 : kd = w 0) (h2 : w 2 = nI y) : ∃ r r' : Int64 × Int32 × Int32 × Int32, lp_X7_times_49 (nI n) kd (nI y) FU z off 0 0 = some r ∧ lp_X8_times_42 (nI n) w FU z off 0 0 = some r' ∧ r.2.2.1 = r'.2.2.1 := by
  refine lk (L := fun fu (s : Int64 × Int32 × Int32 × Int32) => lp_X7_times_49 (nI n) kd (nI y) fu s.1 s.2.1 s.2.2.1 s.2.2.2) (M := fun fu (s : Int64 × Int32 × Int32 × Int32) => lp_X8_times_42 (nI n) w fu s.1 s.2.1 s.2.2.1 s.2.2.2)
    (fun d s t' => s = t' ∧ ∃ i : Nat, i + d = n ∧ s.2.2.2 = nI i) (fun r k => r.2.2.1 = k.2.2.1) (by
    rintro d fu ⟨x, o, a, c⟩ s' hd ⟨rfl, i, hi, e⟩
    simp only at e
    subst e
    dsimp only
    rw [lp_X7_times_49, lp_X8_times_42]
    simp only [cl_0, cl_2, h2, ← h0]
    cases d with
    | zero =>
      obtain rfl : i = n := by omega
      rw [if_pos (Int32.le_refl _), if_pos (Int32.le_refl _)]
      exact Or.inl ⟨_, _, rfl, rfl, rfl⟩
    | succ d =>
      rw [if_neg (nI_ge (by omega) (by omega)), if_neg (nI_ge (by omega) (by omega))]
      simp only [nI_add, nI_1, beh_eq (yr_n (show y + i < 2 ^ 31 by omega)), j_abs_size]
      exact Or.inr ⟨d, (_, _, _, _), (_, _, _, _), rfl, rfl, rfl, rfl, i + 1, by omega, rfl⟩) n FU (z, off, 0, nI 0) (z, off, 0, nI 0) (by rw [FU_eq]; omega) ⟨rfl, 0, by omega, rfl⟩
theorem st_times (p1 p2 : Int32) (s : CSt) (t : MSt) (h : REL s t) : ∃ (r : Int32) (s1 : CSt) (t1 : MSt), S7_times p1 p2 s = some (r, s1) ∧ S8_times p1 p2 t = some (r, t1) ∧ REL s1 t1 := by
  obtain ⟨hT, hK, hC, hF, hX⟩ := h
  unfold S7_times S8_times sp_X7_times sp_X8_times
  by_cases c0 : sp_X8_in p1 0 999999 = 0
  · rw [if_pos (show sp_X2_within p1 0 999999 = 0 from c0), if_pos c0]
    exact ⟨_, _, _, rfl, rfl, hT, hK, hC.bad rfl rfl rfl rfl rfl rfl, hF, hX⟩
  · rw [if_neg (show ¬ sp_X2_within p1 0 999999 = 0 from c0), if_neg c0]
    by_cases c1 : sp_X8_in p2 0 60 = 0
    · rw [if_pos (show sp_X2_within p2 0 60 = 0 from c1), if_pos c1]
      exact ⟨_, _, _, rfl, rfl, hT, hK, hC.bad rfl rfl rfl rfl rfl rfl, hF, hX⟩
    · rw [if_neg (show ¬ sp_X2_within p2 0 60 = 0 from c1), if_neg c1]
      obtain ⟨n, _, hn, rfl⟩ := in_nat (lo := 0) (hi := 60) c1 (by omega) (by omega)
      obtain ⟨y, hy, y1, y2⟩ := hT.year
      obtain ⟨r, r', e1, e2, q⟩ := times_eq (z := p1.toInt64) (off := s.1 9) hn hy hT.kind y2
      simp only [cl_1]
      rw [y1, e1, ← hT.off, e2]
      exact stp rfl rfl (by show r'.2.2.1 = r.2.2.1; rw [q]) hT hK hC hF hX
