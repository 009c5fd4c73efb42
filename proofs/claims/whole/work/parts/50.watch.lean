/-! pure: the next look -/
def cnt (hs : Nat → Bool) (pl : Nat → Nat) : Nat → Nat → Nat
  | 0, _ => 0
  | k + 1, o => cnt hs pl k o + (if hs k = true ∧ pl k = o then 1 else 0)
def mxf (f : Nat → Nat) : Nat → Nat
  | 0 => 0
  | o + 1 => max (mxf f o) (f o)
theorem mxf_cong {f g : Nat → Nat} : ∀ N : Nat, (∀ o : Nat, o < N → g o = f o) → mxf g N = mxf f N
  | 0, _ => rfl
  | N + 1, h => by
    show max (mxf g N) (g N) = max (mxf f N) (f N)
    rw [mxf_cong N (fun o ho => h o (by omega)), h N (by omega)]
theorem mxf_step {f g : Nat → Nat} {a : Nat} (h : ∀ o : Nat, g o = if o = a then f o + 1 else f o) : ∀ N : Nat, a < N → mxf g N = max (mxf f N) (f a + 1)
  | 0, ha => absurd ha (Nat.not_lt_zero _)
  | N + 1, ha => by
    show max (mxf g N) (g N) = max (max (mxf f N) (f N)) (f a + 1)
    by_cases hN : a = N
    · subst hN
      rw [mxf_cong a (fun o ho => by rw [h o, if_neg (by omega)]), h a, if_pos rfl]
      omega
    · rw [mxf_step h N (by omega), h N, if_neg (by omega)]
      omega
theorem mxf_le {f : Nat → Nat} {m : Nat} (h : ∀ o : Nat, f o ≤ m) : ∀ N : Nat, mxf f N ≤ m
  | 0 => Nat.zero_le _
  | N + 1 => by
    show max (mxf f N) (f N) ≤ m
    have := mxf_le h N
    have := h N
    omega
theorem cnt_le (hs : Nat → Bool) (pl : Nat → Nat) : ∀ k o : Nat, cnt hs pl k o ≤ k
  | 0, _ => Nat.zero_le _
  | k + 1, o => by
    have := cnt_le hs pl k o
    show cnt hs pl k o + (if hs k = true ∧ pl k = o then 1 else 0) ≤ k + 1
    split <;> omega
/-- where one that is off by b lies in a row of 19 -/
def plc (b : Int32) : Nat := (b + 9).toNatClampNeg
theorem plc_of {b : Int32} (h : bt b) : plc b < 19 ∧ b + 9 = nI (plc b) ∧ b = nI (plc b) + -9 := by
  obtain ⟨h1, h2⟩ := h
  have e : (b + 9).toInt = b.toInt + 9 := by rw [ti_add (by rw [ti_9]; omega) (by rw [ti_9]; omega), ti_9]
  have h3 : ¬ b + 9 < 0 := by rw [Int32.lt_iff_toInt_lt, e, ti_0]; omega
  obtain ⟨j, hj, ej⟩ := nI_of h3
  have hp : plc b = j := by unfold plc; rw [ej, nI_clamp hj]
  have hj2 : (j : Int) = b.toInt + 9 := by rw [← e, ej, nI_toInt hj]
  refine ⟨by omega, by rw [hp, ej], ?_⟩
  rw [hp, ← ej, Int32.add_assoc, show (9 : Int32) + -9 = 0 from by decide, Int32.add_zero]
theorem bt_o (j : Nat) (h : j < 19) : bt (nI j + -9) := by
  unfold bt
  rw [ti_add (by rw [nI_toInt (by omega), ti_m9]; omega) (by rw [nI_toInt (by omega), ti_m9]; omega), nI_toInt (by omega), ti_m9]
  omega
theorem o_inj {a b : Nat} (ha : a < 2 ^ 31) (hb : b < 2 ^ 31) (h : nI a + -9 = nI b + -9) : a = b := by
  have e : nI a + -9 + 9 = nI b + -9 + 9 := by rw [h]
  rw [Int32.add_assoc, Int32.add_assoc, show (-9 : Int32) + 9 = 0 from by decide, Int32.add_zero, Int32.add_zero] at e
  exact (nI_eq ha hb).mp e
theorem most_eq {v yy : Nat} {p off : Int32} {T w : Nat → Int32} (hv : v < 64) (hy : yy < 2 ^ 31) (hp : bt p) (ho : bt off) (hw : w 1 = off) : ∃ (m : Nat) (T' : Nat → Int32), m ≤ 6 ∧ sp_X7_mostAlike (nI v) (nI yy) p T off = some (nI m, T') ∧ sp_X8_alike (nI v) p (nI yy) w = some (nI m) := by
  obtain ⟨b, hb⟩ : ∃ b : Nat → Int32, ∀ k, b k = sp_X8_behind (nI k) off p (nI yy) := ⟨_, fun _ => rfl⟩
  obtain ⟨hs, hh⟩ : ∃ hs : Nat → Bool, ∀ k, hs k = decide (¬ sp_X8_has (nI v) (nI k) = 0) := ⟨_, fun _ => rfl⟩
  obtain ⟨pl, hpl⟩ : ∃ pl : Nat → Nat, ∀ k, pl k = plc (b k) := ⟨_, fun _ => rfl⟩
  have hbt : ∀ k, bt (b k) := fun k => by rw [hb]; exact bt_beh ho hp
  have hp1 : ∀ k, pl k < 19 := fun k => by rw [hpl]; exact (plc_of (hbt k)).1
  have hp2 : ∀ k, b k + 9 = nI (pl k) := fun k => by rw [hpl]; exact (plc_of (hbt k)).2.1
  have hp3 : ∀ k, b k = nI (pl k) + -9 := fun k => by rw [hpl]; exact (plc_of (hbt k)).2.2
  have cle := cnt_le hs pl
  -- the class's tally
  obtain ⟨T0, t0, t1⟩ := empty_eq (n := 19) (by omega) (f := T)
  obtain ⟨r, e1, q1⟩ := lk1 (L := fun fu (s : Int32 × Int32 × (Nat → Int32)) => lp_X7_mostAlike_13 (nI v) (nI yy) p off fu s.1 s.2.1 s.2.2)
    (fun d s => ∃ k : Nat, k + d = 6 ∧ s.2.1 = nI k ∧ (∀ o : Nat, o < 19 → s.2.2 o = nI (cnt hs pl k o)) ∧ s.1 = nI (mxf (cnt hs pl k) 19)) (fun r => r.1 = nI (mxf (cnt hs pl 6) 19)) (by
    rintro d fu ⟨x, y, U⟩ hd ⟨k, hk, e, hU, ex⟩
    simp only at e hU ex
    subst e; subst ex
    dsimp only
    rw [lp_X7_mostAlike_13]
    cases d with
    | zero =>
      obtain rfl : k = 6 := by omega
      rw [if_pos (show (6 : Int32) ≤ nI 6 from by decide)]
      exact Or.inl ⟨_, rfl, rfl⟩
    | succ d =>
      rw [if_neg (show ¬ (6 : Int32) ≤ nI _ from nI_ge (b := 6) (by omega) (by omega)), has_eq, beh_eq (yr_n hy), ← hb k, hp2 k]
      by_cases c : sp_X8_has (nI v) (nI k) = 0
      · rw [if_pos c]
        have hf : hs k = false := by rw [hh]; exact decide_eq_false (fun q => q c)
        have ec : ∀ o, cnt hs pl (k + 1) o = cnt hs pl k o := fun o => by
          show cnt hs pl k o + (if hs k = true ∧ pl k = o then 1 else 0) = _
          rw [if_neg (fun q => by rw [hf] at q; cases q.1)]; rfl
        simp only [lt_, nI_1]
        refine Or.inr ⟨d, (_, _, _), rfl, rfl, k + 1, by omega, rfl, fun o ho => by show U o = _; rw [hU o ho, ec], ?_⟩
        show nI (mxf (cnt hs pl k) 19) = nI (mxf (cnt hs pl (k + 1)) 19)
        rw [mxf_cong 19 (fun o _ => ec o)]
      · rw [if_neg c, at_n (hp1 k) (by omega), put_n (hp1 k) (by omega), hU _ (hp1 k)]
        have hf : hs k = true := by rw [hh]; exact decide_eq_true c
        have ec : ∀ o, cnt hs pl (k + 1) o = if o = pl k then cnt hs pl k o + 1 else cnt hs pl k o := fun o => by
          show cnt hs pl k o + (if hs k = true ∧ pl k = o then 1 else 0) = _
          by_cases co : o = pl k
          · rw [if_pos ⟨hf, co.symm⟩, if_pos co]
          · rw [if_neg (fun q => co q.2.symm), if_neg co]; rfl
        have hm := mxf_step ec 19 (hp1 k)
        have c1 := cle k (pl k)
        have c2 := mxf_le (cle k) 19
        simp only [lt_, nI_1]
        rw [mx_n (by omega) (by omega), ← hm]
        refine Or.inr ⟨d, (_, _, _), rfl, rfl, k + 1, by omega, rfl, fun o ho => ?_, rfl⟩
        show upd U (pl k) (nI (cnt hs pl k (pl k) + 1)) o = _
        rw [ec]
        by_cases co : o = pl k
        · rw [if_pos co, co, upd_s]
        · rw [if_neg co, upd_o co, hU o ho]) 6 FU (nI 0, nI 0, T0) (by rw [FU_eq]; omega) ⟨0, by omega, rfl, fun o ho => by show T0 o = _; rw [t1 o ho]; rfl, by
      show nI 0 = nI (mxf (cnt hs pl 0) 19)
      have : mxf (cnt hs pl 0) 19 ≤ 0 := mxf_le (fun o => Nat.le_refl 0) 19
      rw [show mxf (cnt hs pl 0) 19 = 0 by omega]⟩
  -- the model's count of one place
  have inner : ∀ o : Nat, o < 19 → ∃ r : Int32 × Int32, lp_X8_alike_20 (nI v) p (nI yy) w (nI o + -9) FU 0 0 = some r ∧ r.1 = nI (cnt hs pl 6 o) := by
    intro o ho
    exact lk1 (L := fun fu (s : Int32 × Int32) => lp_X8_alike_20 (nI v) p (nI yy) w (nI o + -9) fu s.1 s.2)
      (fun d s => ∃ k : Nat, k + d = 6 ∧ s.2 = nI k ∧ s.1 = nI (cnt hs pl k o)) (fun r => r.1 = nI (cnt hs pl 6 o)) (by
      rintro d fu ⟨x, y⟩ hd ⟨k, hk, e, ex⟩
      simp only at e ex
      subst e; subst ex
      dsimp only
      rw [lp_X8_alike_20]
      simp only [cl_1, hw, lt_]
      cases d with
      | zero =>
        obtain rfl : k = 6 := by omega
        rw [if_pos (show (6 : Int32) ≤ nI 6 from by decide)]
        exact Or.inl ⟨_, rfl, rfl⟩
      | succ d =>
        rw [if_neg (show ¬ (6 : Int32) ≤ nI _ from nI_ge (b := 6) (by omega) (by omega)), ← hb k, nI_1]
        by_cases c : sp_X8_has (nI v) (nI k) = 0
        · have hf : hs k = false := by rw [hh]; exact decide_eq_false (fun q => q c)
          have ec : cnt hs pl (k + 1) o = cnt hs pl k o := by
            show cnt hs pl k o + (if hs k = true ∧ pl k = o then 1 else 0) = _
            rw [if_neg (fun q => by rw [hf] at q; cases q.1)]; rfl
          rw [if_pos c, Int32.add_zero, ← ec]
          exact Or.inr ⟨d, (_, _), rfl, rfl, k + 1, by omega, rfl, rfl⟩
        · have hf : hs k = true := by rw [hh]; exact decide_eq_true c
          rw [if_neg c]
          by_cases co : b k = nI o + -9
          · have epo : pl k = o := o_inj (by have := hp1 k; omega) (by omega) ((hp3 k).symm.trans co)
            have ec : cnt hs pl (k + 1) o = cnt hs pl k o + 1 := by
              show cnt hs pl k o + (if hs k = true ∧ pl k = o then 1 else 0) = _
              rw [if_pos ⟨hf, epo⟩]
            rw [if_pos co, nI_1, ← ec]
            exact Or.inr ⟨d, (_, _), rfl, rfl, k + 1, by omega, rfl, rfl⟩
          · have ec : cnt hs pl (k + 1) o = cnt hs pl k o := by
              show cnt hs pl k o + (if hs k = true ∧ pl k = o then 1 else 0) = _
              rw [if_neg (fun q => co ((hp3 k).trans (by rw [q.2])))]; rfl
            rw [if_neg co, Int32.add_zero, ← ec]
            exact Or.inr ⟨d, (_, _), rfl, rfl, k + 1, by omega, rfl, rfl⟩) 6 FU (nI 0, nI 0) (by rw [FU_eq]; omega) ⟨0, by omega, rfl, rfl⟩
  obtain ⟨r', e2, q2⟩ := lk1 (L := fun fu (s : Int32 × Int32) => lp_X8_alike_7 (nI v) p (nI yy) w fu s.1 s.2)
    (fun d s => ∃ o : Nat, o + d = 19 ∧ s.2 = nI o + -9 ∧ s.1 = nI (mxf (cnt hs pl 6) o)) (fun r => r.1 = nI (mxf (cnt hs pl 6) 19)) (by
    rintro d fu ⟨x, y⟩ hd ⟨o, ho, e, ex⟩
    simp only at e ex
    subst e; subst ex
    dsimp only
    rw [lp_X8_alike_7]
    cases d with
    | zero =>
      obtain rfl : o = 19 := by omega
      rw [if_pos (show (10 : Int32) ≤ nI 19 + -9 from by decide)]
      exact Or.inl ⟨_, rfl, rfl⟩
    | succ d =>
      obtain ⟨r, r1, r2⟩ := inner o (by omega)
      have c1 := cle 6 o
      have c2 := mxf_le (cle 6) o
      rw [if_neg (o9 o (by omega)).2, r1]
      simp only [Option.bind_some, lt_, r2, o9s]
      have em : (if nI (cnt hs pl 6 o) ≤ nI (mxf (cnt hs pl 6) o) then nI (mxf (cnt hs pl 6) o) else nI (cnt hs pl 6 o)) = nI (mxf (cnt hs pl 6) (o + 1)) := by
        rw [mx_8 (by omega) (by omega)]; rfl
      rw [em]
      exact Or.inr ⟨d, (_, _), rfl, rfl, o + 1, by omega, rfl, rfl⟩) 19 FU (0, -9) (by rw [FU_eq]; omega) ⟨0, by omega, by decide, rfl⟩
  have e1 : lp_X7_mostAlike_13 (nI v) (nI yy) p off FU 0 0 T0 = some r := e1
  have e2 : lp_X8_alike_7 (nI v) p (nI yy) w FU 0 (-9) = some r' := e2
  refine ⟨mxf (cnt hs pl 6) 19, r.2.2, mxf_le (cle 6) 19, ?_, ?_⟩
  · unfold sp_X7_mostAlike; rw [t0]; simp only [Option.bind_some]; rw [e1, ← q1]; rfl
  · unfold sp_X8_alike; rw [e2, ← q2]; rfl
theorem watch_in {v yy : Nat} {off b0 l0 : Int32} {T w : Nat → Int32} (hv : v < 64) (hy : yy < 2 ^ 31) (ho : bt off) (hw : w 1 = off) : ∃ (r : Int32 × Int32 × Int32 × (Nat → Int32)) (r' : Int32 × Int32 × Int32), lp_X7_watch_30 off (nI v) (nI yy) FU b0 l0 (-9) T = some r ∧ lp_X8_watch_24 w (nI v) (nI yy) FU b0 l0 (-9) = some r' ∧ r.1 = r'.1 ∧ r.2.1 = r'.2.1 := by
  refine lk (L := fun fu (s : Int32 × Int32 × Int32 × (Nat → Int32)) => lp_X7_watch_30 off (nI v) (nI yy) fu s.1 s.2.1 s.2.2.1 s.2.2.2) (M := fun fu (s : Int32 × Int32 × Int32) => lp_X8_watch_24 w (nI v) (nI yy) fu s.1 s.2.1 s.2.2)
    (fun d s t' => s.1 = t'.1 ∧ s.2.1 = t'.2.1 ∧ s.2.2.1 = t'.2.2 ∧ ∃ i : Nat, i + d = 19 ∧ s.2.2.1 = nI i + -9) (fun r k => r.1 = k.1 ∧ r.2.1 = k.2.1) (by
    rintro d fu ⟨b, l, y, U⟩ ⟨b', l', y'⟩ hd ⟨rfl, rfl, rfl, i, hi, e⟩
    simp only at e
    subst e
    dsimp only
    rw [lp_X7_watch_30, lp_X8_watch_24]
    cases d with
    | zero =>
      obtain rfl : i = 19 := by omega
      rw [if_pos (show (9 : Int32) < nI 19 + -9 from by decide), if_pos (show (10 : Int32) ≤ nI 19 + -9 from by decide)]
      exact Or.inl ⟨_, _, rfl, rfl, rfl, rfl⟩
    | succ d =>
      obtain ⟨m, T', hm, m1, m2⟩ := most_eq (T := U) (w := w) hv hy (bt_o i (by omega)) ho hw
      rw [if_neg (o9 i (by omega)).1, if_neg (o9 i (by omega)).2, m1, m2]
      simp only [Option.bind_some, lt_, o9s]
      by_cases c : l ≤ nI m
      · rw [if_pos c, if_pos c, if_pos c]
        exact Or.inr ⟨d, (_, _, _, _), (_, _, _), rfl, rfl, rfl, rfl, rfl, rfl, i + 1, by omega, rfl⟩
      · rw [if_neg c, if_neg c, if_neg c]
        refine Or.inr ⟨d, (_, _, _, _), (_, _, _), rfl, rfl, rfl, ?_, rfl, rfl, i + 1, by omega, rfl⟩
        show (100 * nI yy + 9) + (nI i + -9) = (100 * nI yy + (nI i + -9)) + 9
        rw [Int32.add_assoc, Int32.add_comm 9 (nI i + -9), ← Int32.add_assoc]) 19 FU (b0, l0, -9, T) (b0, l0, -9) (by rw [FU_eq]; omega) ⟨rfl, rfl, rfl, 0, by omega, show (-9 : Int32) = nI 0 + -9 from by decide⟩
theorem watch_out {v : Nat} {off : Int32} {T w : Nat → Int32} (hv : v < 64) (ho : bt off) (hw : w 1 = off) : ∃ (r : Int32 × Int32 × Int32 × (Nat → Int32)) (r' : Int32 × Int32 × Int32), lp_X7_watch_19 off (nI v) FU (-1) 7 0 T = some r ∧ lp_X8_watch_13 w (nI v) FU (-1) 7 0 = some r' ∧ r.1 = r'.1 := by
  refine lk (L := fun fu (s : Int32 × Int32 × Int32 × (Nat → Int32)) => lp_X7_watch_19 off (nI v) fu s.1 s.2.1 s.2.2.1 s.2.2.2) (M := fun fu (s : Int32 × Int32 × Int32) => lp_X8_watch_13 w (nI v) fu s.1 s.2.1 s.2.2)
    (fun d s t' => s.1 = t'.1 ∧ s.2.1 = t'.2.1 ∧ s.2.2.1 = t'.2.2 ∧ ∃ i : Nat, i + d = 6 ∧ s.2.2.1 = nI i) (fun r k => r.1 = k.1) (by
    rintro d fu ⟨b, l, y, U⟩ ⟨b', l', y'⟩ hd ⟨rfl, rfl, rfl, i, hi, e⟩
    simp only at e
    subst e
    dsimp only
    rw [lp_X7_watch_19, lp_X8_watch_13]
    cases d with
    | zero =>
      obtain rfl : i = 6 := by omega
      rw [if_pos (show (6 : Int32) ≤ nI 6 from by decide), if_pos (show (6 : Int32) ≤ nI 6 from by decide)]
      exact Or.inl ⟨_, _, rfl, rfl, rfl⟩
    | succ d =>
      obtain ⟨r, r', e1, e2, q1, q2⟩ := watch_in (b0 := b) (l0 := l) (T := U) (w := w) hv (show i < 2 ^ 31 by omega) ho hw
      rw [if_neg (show ¬ (6 : Int32) ≤ nI _ from nI_ge (b := 6) (by omega) (by omega)), if_neg (show ¬ (6 : Int32) ≤ nI _ from nI_ge (b := 6) (by omega) (by omega)), e1, e2, nI_1]
      simp only [Option.bind_some]
      rw [q1, q2]
      exact Or.inr ⟨d, (_, _, _, _), (_, _, _), rfl, rfl, rfl, rfl, rfl, rfl, i + 1, by omega, rfl⟩) 6 FU (-1, 7, nI 0, T) (-1, 7, nI 0) (by rw [FU_eq]; omega) ⟨rfl, rfl, rfl, 0, by omega, rfl⟩
theorem st_watch (s : CSt) (t : MSt) (h : REL s t) : ∃ (r : Int32) (s1 : CSt) (t1 : MSt), S7_watch s = some (r, s1) ∧ S8_watch t = some (r, t1) ∧ REL s1 t1 := by
  obtain ⟨hT, hK, hC, hF, hX⟩ := h
  unfold S7_watch S8_watch sp_X7_watch sp_X8_watch
  obtain ⟨n, hn, e1, e2, e3⟩ := hT.notes
  obtain ⟨v, hv, v1, v2⟩ := is_eq hn e2 e3
  obtain ⟨u, u', f1, f2, f3⟩ := watch_out (T := s.2.2.1 43) hv hT.boff hT.off.symm
  rw [e1, v1, v2]
  simp only [Option.bind_some]
  rw [f2]
  simp only [Option.bind_some]
  by_cases c : nI v = 0
  · rw [if_pos c, if_pos c]
    exact ⟨_, _, _, rfl, rfl, hT, hK, hC, hF, hX⟩
  · rw [if_neg c, if_neg c, f1]
    exact stp rfl rfl (by show u'.1 = u.1; rw [f3]) hT hK hC hF hX
