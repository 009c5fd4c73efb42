/-! pure: what is looked at -/
theorem or0 (x : Int32) : x ||| 0 = x := Int32.toBitVec_inj.1 (by simp)
theorem bit_or : ∀ v : Nat, v < 64 → ∀ k : Nat, k < 6 → nI v ||| ((1 : Int32) <<< (nI k &&& 31)) = nI (v ||| 2 ^ k) ∧ v ||| 2 ^ k < 64 := by decide +kernel
theorem bit_has : ∀ v : Nat, v < 64 → ∀ k : Nat, k < 6 → sp_X8_has (nI v) (nI k) = if v.testBit k then 1 else 0 := by decide +kernel
theorem bit_ones : ∀ v : Nat, v < 64 → lp_X8_ones_4 (nI v) 3000 0 0 = some (sp_J6_bitCount_0f7a4 (nI v), nI 30) := by decide +kernel
theorem ones_eq {v : Nat} (h : v < 64) : sp_X8_ones (nI v) = some (sp_J6_bitCount_0f7a4 (nI v)) := by
  unfold sp_X8_ones
  rw [FU_eq, bit_ones v h]; rfl
theorem tb_or (v k j : Nat) : (v ||| 2 ^ k).testBit j = (v.testBit j || decide (k = j)) := by
  rw [Nat.testBit_or, Nat.testBit_two_pow]
/-- one step of a loop over plots that puts bits together -/
theorem levelPlots_eq {h k t w : Nat → Int32} (H : HS h k t w) : ∃ r r' : Int32 × Int32, lp_X7_levelPlots_4 h t FU 0 0 = some r ∧ lp_X8_lies_18 0 w FU 0 0 = some r' ∧ r.1 = r'.1 := by
  exact lk (L := fun fu (s : Int32 × Int32) => lp_X7_levelPlots_4 h t fu s.1 s.2) (M := fun fu (s : Int32 × Int32) => lp_X8_lies_18 0 w fu s.1 s.2)
    (fun d s t => s = t ∧ ∃ i : Nat, i + d = 6 ∧ s.2 = nI i) (fun r k => r.1 = k.1) (by
    rintro d fu ⟨a, y⟩ s' hd ⟨rfl, i, hi, e⟩
    simp only at e
    subst e
    cases d with
    | zero =>
      obtain rfl : i = 6 := by omega
      refine Or.inl ⟨(a, nI 6), (a, nI 6), ?_, ?_, rfl⟩
      · show lp_X7_levelPlots_4 h t (fu + 1) a (nI 6) = _
        rw [lp_X7_levelPlots_4, if_pos (show (6 : Int32) ≤ nI 6 from Int32.le_refl _)]
      · show lp_X8_lies_18 0 w (fu + 1) a (nI 6) = _
        rw [lp_X8_lies_18, if_pos (show (6 : Int32) - 0 ≤ nI 6 from by decide)]
    | succ d =>
      have hb : ¬ (6 : Int32) - 0 ≤ nI i := by
        rw [show (6 : Int32) - 0 = nI 6 from by decide]; exact nI_ge (by omega) (by omega)
      by_cases c : sp_X3_top (nI i) h t = 0
      · refine Or.inr ⟨d, (a ||| ((1 : Int32) <<< (nI i &&& 31)), nI (i + 1)), (a ||| ((1 : Int32) <<< (nI i &&& 31)), nI (i + 1)), rfl, ?_, ?_, rfl, i + 1, by omega, rfl⟩
        · show lp_X7_levelPlots_4 h t (fu + 1) a (nI i) = lp_X7_levelPlots_4 h t fu _ (nI (i + 1))
          rw [lp_X7_levelPlots_4, if_neg (show ¬ (6 : Int32) ≤ nI _ from nI_ge (b := 6) (by omega) (by omega)), if_pos c, nI_1]; rfl
        · show lp_X8_lies_18 0 w (fu + 1) a (nI i) = lp_X8_lies_18 0 w fu _ (nI (i + 1))
          rw [lp_X8_lies_18, if_neg hb, if_pos rfl, top_eq H (by omega)]
          show Option.bind (Option.bind (some _) _) _ = _
          simp only [Option.bind_some, c, if_pos, if_neg, nI_1, lt_, show ¬ (1 : Int32) = 0 from by decide, if_false]
      · refine Or.inr ⟨d, (a, nI (i + 1)), (a, nI (i + 1)), rfl, ?_, ?_, rfl, i + 1, by omega, rfl⟩
        · show lp_X7_levelPlots_4 h t (fu + 1) a (nI i) = lp_X7_levelPlots_4 h t fu _ (nI (i + 1))
          rw [lp_X7_levelPlots_4, if_neg (show ¬ (6 : Int32) ≤ nI _ from nI_ge (b := 6) (by omega) (by omega)), if_neg c, nI_1]; rfl
        · show lp_X8_lies_18 0 w (fu + 1) a (nI i) = lp_X8_lies_18 0 w fu _ (nI (i + 1))
          rw [lp_X8_lies_18, if_neg hb, if_pos rfl, top_eq H (by omega)]
          simp only [Option.bind_some, c, if_neg, nI_1, lt_, if_false, if_true, or0]) 6 FU (0, nI 0) (0, nI 0) (by rw [FU_eq]; omega) ⟨rfl, 0, by omega, rfl⟩
theorem isStep_eq {i : Nat} {h k t w : Nat → Int32} (H : HS h k t w) (hi : i < 5) : sp_X8_isStep (nI i) w = some (if j_abs (sp_X3_top (nI i) h t - sp_X3_top (nI (i + 1)) h t) < 3 then 0 else 1) := by
  unfold sp_X8_isStep
  rw [nI_1, top_eq H (by omega), top_eq H (by omega)]
  simp only [Option.bind_some, j_abs_size]
  have e : ∀ x : Int32, x < 3 ↔ x ≤ 2 := fun x => by rw [Int32.lt_iff_toInt_lt, Int32.le_iff_toInt_le, ti_2, ti_3]; omega
  by_cases c : sp_X8_size (sp_X3_top (nI i) h t - sp_X3_top (nI (i + 1)) h t) < 3
  · rw [if_pos c, if_pos ((e _).mp c)]
  · rw [if_neg c, if_neg (fun q => c ((e _).mpr q))]
/-- the joins that are steps, as bits -/
theorem steps_eq {h k t w : Nat → Int32} (H : HS h k t w) : ∃ v : Nat, v < 64 ∧ sp_X7_steps h t = some (nI v) ∧ (∃ r' : Int32 × Int32, lp_X8_lies_18 1 w FU 0 0 = some r' ∧ r'.1 = nI v) ∧ ∀ i : Nat, i < 5 → sp_X8_isStep (nI i) w = some (sp_X8_has (nI v) (nI i)) := by
  obtain ⟨r, r', e1, e2, v, hv, q1, q2, q3⟩ := lk (L := fun fu (s : Int32 × Int32) => lp_X7_steps_4 h t fu s.1 s.2) (M := fun fu (s : Int32 × Int32) => lp_X8_lies_18 1 w fu s.1 s.2)
    (fun d s t' => s = t' ∧ ∃ i v : Nat, i + d = 5 ∧ s.2 = nI i ∧ v < 64 ∧ s.1 = nI v ∧ (∀ j : Nat, i ≤ j → v.testBit j = false) ∧ ∀ j : Nat, j < i → sp_X8_isStep (nI j) w = some (if v.testBit j then 1 else 0)) (fun r k => ∃ v : Nat, v < 64 ∧ r.1 = nI v ∧ k.1 = nI v ∧ ∀ j : Nat, j < 5 → sp_X8_isStep (nI j) w = some (if v.testBit j then 1 else 0)) (by
    rintro d fu ⟨a, y⟩ s' hd ⟨rfl, i, v, hi, e, hv, ea, hz, hs⟩
    simp only at e ea
    subst e; subst ea
    cases d with
    | zero =>
      obtain rfl : i = 5 := by omega
      refine Or.inl ⟨(nI v, nI 5), (nI v, nI 5), ?_, ?_, v, hv, rfl, rfl, hs⟩
      · show lp_X7_steps_4 h t (fu + 1) (nI v) (nI 5) = _
        rw [lp_X7_steps_4, if_pos (show (5 : Int32) ≤ nI 5 from Int32.le_refl _)]
      · show lp_X8_lies_18 1 w (fu + 1) (nI v) (nI 5) = _
        rw [lp_X8_lies_18, if_pos (show (6 : Int32) - 1 ≤ nI 5 from by decide)]
    | succ d =>
      have hb : ¬ (6 : Int32) - 1 ≤ nI i := by
        rw [show (6 : Int32) - 1 = nI 5 from by decide]; exact nI_ge (by omega) (by omega)
      have es := isStep_eq H (show i < 5 by omega)
      by_cases c : j_abs (sp_X3_top (nI i) h t - sp_X3_top (nI (i + 1)) h t) < 3
      · rw [if_pos c] at es
        refine Or.inr ⟨d, (nI v, nI (i + 1)), (nI v, nI (i + 1)), rfl, ?_, ?_, rfl, i + 1, v, by omega, rfl, hv, rfl, fun j hj => hz j (by omega), fun j hj => ?_⟩
        · show lp_X7_steps_4 h t (fu + 1) (nI v) (nI i) = lp_X7_steps_4 h t fu _ (nI (i + 1))
          rw [lp_X7_steps_4, if_neg (show ¬ (5 : Int32) ≤ nI _ from nI_ge (b := 5) (by omega) (by omega)), nI_1, if_pos c]; rfl
        · show lp_X8_lies_18 1 w (fu + 1) (nI v) (nI i) = lp_X8_lies_18 1 w fu _ (nI (i + 1))
          rw [lp_X8_lies_18, if_neg hb, if_neg (show ¬ (1 : Int32) = 0 from by decide), es]
          simp only [Option.bind_some, nI_1, lt_, if_true, or0]
        · by_cases hji : j = i
          · subst hji; rw [hz j (Nat.le_refl _), es]; rfl
          · exact hs j (by omega)
      · rw [if_neg c] at es
        obtain ⟨b1, b2⟩ := bit_or v hv i (by omega)
        refine Or.inr ⟨d, (nI (v ||| 2 ^ i), nI (i + 1)), (nI (v ||| 2 ^ i), nI (i + 1)), rfl, ?_, ?_, rfl, i + 1, v ||| 2 ^ i, by omega, rfl, b2, rfl, fun j hj => ?_, fun j hj => ?_⟩
        · show lp_X7_steps_4 h t (fu + 1) (nI v) (nI i) = lp_X7_steps_4 h t fu _ (nI (i + 1))
          rw [lp_X7_steps_4, if_neg (show ¬ (5 : Int32) ≤ nI _ from nI_ge (b := 5) (by omega) (by omega)), nI_1, if_neg c, b1]; rfl
        · show lp_X8_lies_18 1 w (fu + 1) (nI v) (nI i) = lp_X8_lies_18 1 w fu _ (nI (i + 1))
          rw [lp_X8_lies_18, if_neg hb, if_neg (show ¬ (1 : Int32) = 0 from by decide), es]
          simp only [Option.bind_some, nI_1, lt_, show ¬ (1 : Int32) = 0 from by decide, if_false, b1]
        · rw [tb_or, hz j (by omega), decide_eq_false (by omega)]; rfl
        · by_cases hji : j = i
          · subst hji; rw [tb_or, es, decide_eq_true rfl, Bool.or_true]; rfl
          · rw [tb_or, decide_eq_false (fun q => hji q.symm), Bool.or_false]; exact hs j (by omega)) 5 FU (0, nI 0) (0, nI 0) (by rw [FU_eq]; omega) ⟨rfl, 0, 0, by omega, rfl, by omega, rfl, fun j _ => Nat.zero_testBit j, fun j hj => absurd hj (by omega)⟩
  refine ⟨v, hv, ?_, ⟨r', e2, q2⟩, fun i hi => ?_⟩
  · have e1 : lp_X7_steps_4 h t FU 0 0 = some r := e1
    unfold sp_X7_steps; rw [e1, ← q1]; rfl
  · rw [q3 i hi, bit_has v hv i (by omega)]
theorem st_lies (p1 : Int32) (s : CSt) (t : MSt) (h : REL s t) : ∃ (r : Int32) (s1 : CSt) (t1 : MSt), S7_lies p1 s = some (r, s1) ∧ S8_lies p1 t = some (r, t1) ∧ REL s1 t1 := by
  obtain ⟨hT, hK, hC, hF, hX⟩ := h
  unfold S7_lies S8_lies sp_X7_lies sp_X8_lies
  by_cases c0 : sp_X8_in p1 0 1 = 0
  · have n0 : ¬ p1 = 0 := fun q => by subst q; exact absurd c0 (by decide)
    have n1 : ¬ p1 = 1 := fun q => by subst q; exact absurd c0 (by decide)
    rw [if_pos c0, if_neg n0, if_neg n1]
    exact ⟨_, _, _, rfl, rfl, hT, hK, hC.bad rfl rfl rfl rfl rfl rfl, hF, hX⟩
  · rw [if_neg c0]
    obtain ⟨n, _, hn, rfl⟩ := in_nat (lo := 0) (hi := 1) c0 (by omega) (by omega)
    match n, hn with
    | 0, _ =>
      obtain ⟨r, r', e1, e2, q⟩ := levelPlots_eq hT.hs
      unfold sp_X7_levelPlots
      rw [if_pos (show nI 0 = 0 from rfl), e1, show nI 0 = 0 from rfl, e2]
      exact stp rfl rfl (by show r'.1 = r.1; rw [q]) hT hK hC hF hX
    | 1, _ =>
      obtain ⟨v, hv, e1, ⟨r', e2, q⟩, _⟩ := steps_eq hT.hs
      rw [if_neg (show ¬ nI 1 = 0 from by decide), if_pos (show nI 1 = 1 from rfl), e1, show nI 1 = 1 from rfl, e2]
      exact stp rfl rfl (by show r'.1 = nI v; rw [q]) hT hK hC hF hX
