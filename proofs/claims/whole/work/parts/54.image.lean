/-! pure: images -/
theorem cpTo_lt {α : Type} {n i : Nat} {f g : Nat → α} (h : i < n) : cpTo n f g i = f i := if_pos h
theorem TR.cp {kind pasts members nc mc off year : Int32} {pulls h k t views notes marks pO pY : Nat → Int32} {ph pk pt : Nat → Nat → Int32} {w : Nat → Int32} {o n : Nat} (H : TR kind pasts members nc mc off year pulls h k t views notes marks pO pY ph pk pt w o) (hn : pasts = nI n) (h8 : n ≤ 8) (qO qY : Nat → Int32) (qh qk qt : Nat → Nat → Int32) : TR kind pasts members nc mc off year pulls h k t views notes marks (cpTo n pO qO) (cpTo n pY qY) (cpTo n ph qh) (cpTo n pk qk) (cpTo n pt qt) w o := by
  obtain ⟨h1, h2, h3, h4, h5, h6, ⟨m, m1, m2, m3, m4⟩⟩ := H
  refine ⟨h1, h2, h3, h4, h5, h6, ⟨m, m1, m2, m3, fun i hi => ?_⟩⟩
  have : m = n := (nI_eq (by omega) (by omega)).mp (m2.symm.trans hn)
  subst this
  rw [cpTo_lt hi, cpTo_lt hi, cpTo_lt hi, cpTo_lt hi, cpTo_lt hi]
  exact m4 i hi
theorem TR.np {kind pasts members nc mc off year : Int32} {pulls h k t views notes marks pO pY : Nat → Int32} {ph pk pt : Nat → Nat → Int32} {w : Nat → Int32} {o : Nat} (H : TR kind pasts members nc mc off year pulls h k t views notes marks pO pY ph pk pt w o) : ∃ n : Nat, n ≤ 8 ∧ pasts = nI n := by
  obtain ⟨h1, h2, h3, h4, h5, h6, ⟨m, m1, m2, m3, m4⟩⟩ := H
  exact ⟨m, m1, m2⟩
theorem kp_set : ∀ a : Nat, a < 2 → ∀ b : Nat, b < 2 → (nI (a + 2 * b) ||| ((1 : Int32) <<< ((0 : Int32) &&& 31)) = nI (1 + 2 * b)) ∧ (nI (a + 2 * b) ||| ((1 : Int32) <<< ((1 : Int32) &&& 31)) = nI (a + 2 * 1)) ∧ sp_X8_has (nI (a + 2 * b)) 0 = nI a ∧ sp_X8_has (nI (a + 2 * b)) 1 = nI b := by decide +kernel
theorem in01_bad {x : Int32} (h : sp_X8_in x 0 1 = 0) : sp_X7_imageAt_bad x = some () ∧ ¬ x = 0 ∧ ¬ x = 1 := by
  refine ⟨?_, fun q => by subst q; exact absurd h (by decide), fun q => by subst q; exact absurd h (by decide)⟩
  unfold sp_X8_in at h
  unfold sp_X7_imageAt_bad
  by_cases h1 : x < 0
  · rw [if_pos h1]
  · rw [if_neg h1] at h ⊢
    by_cases h2 : (1 : Int32) < x
    · rw [if_pos ((le_lt1 (show (2 : Int32).toInt = (1 : Int32).toInt + 1 from by decide)).mpr h2)]
    · rw [if_neg h2] at h; exact absurd h (by decide)
theorem st_image (p1 : Int32) (s : CSt) (t : MSt) (h : REL s t) : ∃ (r : Int32) (s1 : CSt) (t1 : MSt), S7_image p1 s = some (r, s1) ∧ S8_image p1 t = some (r, t1) ∧ REL s1 t1 := by
  obtain ⟨hT, hK, hC, hF, hX⟩ := h
  unfold S7_image S8_image sp_X8_image
  by_cases c0 : sp_X8_in p1 0 1 = 0
  · obtain ⟨b1, b2, b3⟩ := in01_bad c0
    rw [if_neg b2, if_neg b3, if_pos c0]
    unfold S7_image_bad sp_X7_image_bad
    rw [b1]
    exact ⟨_, _, _, rfl, rfl, hT, hK, hC.bad rfl rfl rfl rfl rfl rfl, hF, hX⟩
  · rw [if_neg c0]
    obtain ⟨q, _, hq, rfl⟩ := in_nat (lo := 0) (hi := 1) c0 (by omega) (by omega)
    obtain ⟨n, n8, en⟩ := TR.np hT
    obtain ⟨a, b, ha, hb, ek, ea, eb, ka, kb⟩ := hK
    obtain ⟨k1, k2, _, _⟩ := kp_set a (by omega) b (by omega)
    match q, hq with
    | 0, _ =>
      obtain ⟨g, g1, g2, g3⟩ := copd (n0 := 682) (n2 := 1364) (a := 0) (b := 0) (N := 682) (f := t.2.2 1) (g := t.2.2 4) (by omega) (by omega) (by omega) (by omega) (by omega)
      have g1 : sp_X8_copies_d 682 1364 0 (682 * nI 0) 682 (t.2.2 1) (t.2.2 4) = some g := g1
      rw [if_pos (show nI 0 = 0 from rfl)]
      unfold S7_image_0 sp_X7_image_0 sp_X6_copyFrom
      rw [g1, en, gi_n (show n < 9 by omega) (by omega), nI_clamp (show n < 2 ^ 31 by omega), ek]
      rw [k1]
      simp only [Option.bind_some]
      rw [gi_n (a := 0) (by omega) (by omega), ← en]
      have hN : TR (s.1 4) (s.1 5) (s.1 6) (s.1 7) (s.1 8) (s.1 9) (s.1 10) (s.2.2.1 0) (s.2.2.1 1) (s.2.2.1 2) (s.2.2.1 3) (s.2.2.1 4) (s.2.2.1 5) (s.2.2.1 6) (cpTo n (s.2.2.2.1 0) (s.2.2.2.1 4)) (cpTo n (s.2.2.2.1 1) (s.2.2.2.1 5)) (cpTo n (s.2.2.2.2.1 0) (s.2.2.2.2.1 6)) (cpTo n (s.2.2.2.2.1 1) (s.2.2.2.2.1 7)) (cpTo n (s.2.2.2.2.1 2) (s.2.2.2.2.1 8)) g 0 := (TR.cp hT en n8 (s.2.2.2.1 4) (s.2.2.2.1 5) (s.2.2.2.2.1 6) (s.2.2.2.2.1 7) (s.2.2.2.2.1 8)).move (fun j hj => g2 j hj)
      have hO : b = 1 → TR (s.1 25) (s.1 26) (s.1 27) (s.1 28) (s.1 29) (s.1 30) (s.1 31) (s.2.2.1 21) (s.2.2.1 22) (s.2.2.1 23) (s.2.2.1 24) (s.2.2.1 25) (s.2.2.1 26) (s.2.2.1 27) (s.2.2.2.1 6) (s.2.2.2.1 7) (s.2.2.2.2.1 9) (s.2.2.2.2.1 10) (s.2.2.2.2.1 11) g 682 := fun q => (kb q).move (fun j hj => g3 _ (by omega))
      refine ⟨_, _, _, rfl, rfl, hT, ⟨1, b, by omega, by omega, rfl, rfl, eb, fun _ => hN, hO⟩, hC, hF, hX⟩
    | 1, _ =>
      obtain ⟨g, g1, g2, g3⟩ := copd (n0 := 682) (n2 := 1364) (a := 0) (b := 682) (N := 682) (f := t.2.2 1) (g := t.2.2 4) (by omega) (by omega) (by omega) (by omega) (by omega)
      have g1 : sp_X8_copies_d 682 1364 0 (682 * nI 1) 682 (t.2.2 1) (t.2.2 4) = some g := g1
      rw [if_neg (show ¬ nI 1 = 0 from by decide), if_pos (show nI 1 = 1 from rfl)]
      unfold S7_image_1 sp_X7_image_1 sp_X6_copyFrom
      rw [g1, en, gi_n (show n < 9 by omega) (by omega), nI_clamp (show n < 2 ^ 31 by omega), ek]
      rw [k2]
      simp only [Option.bind_some]
      rw [gi_n (a := 1) (by omega) (by omega), ← en]
      have hN : TR (s.1 4) (s.1 5) (s.1 6) (s.1 7) (s.1 8) (s.1 9) (s.1 10) (s.2.2.1 0) (s.2.2.1 1) (s.2.2.1 2) (s.2.2.1 3) (s.2.2.1 4) (s.2.2.1 5) (s.2.2.1 6) (cpTo n (s.2.2.2.1 0) (s.2.2.2.1 6)) (cpTo n (s.2.2.2.1 1) (s.2.2.2.1 7)) (cpTo n (s.2.2.2.2.1 0) (s.2.2.2.2.1 9)) (cpTo n (s.2.2.2.2.1 1) (s.2.2.2.2.1 10)) (cpTo n (s.2.2.2.2.1 2) (s.2.2.2.2.1 11)) g 682 := (TR.cp hT en n8 (s.2.2.2.1 6) (s.2.2.2.1 7) (s.2.2.2.2.1 9) (s.2.2.2.2.1 10) (s.2.2.2.2.1 11)).move (fun j hj => g2 j hj)
      have hO : a = 1 → TR (s.1 18) (s.1 19) (s.1 20) (s.1 21) (s.1 22) (s.1 23) (s.1 24) (s.2.2.1 14) (s.2.2.1 15) (s.2.2.1 16) (s.2.2.1 17) (s.2.2.1 18) (s.2.2.1 19) (s.2.2.1 20) (s.2.2.2.1 4) (s.2.2.2.1 5) (s.2.2.2.2.1 6) (s.2.2.2.2.1 7) (s.2.2.2.2.1 8) g 0 := fun q => (ka q).move (fun j hj => g3 _ (by omega))
      refine ⟨_, _, _, rfl, rfl, hT, ⟨a, 1, by omega, by omega, rfl, ea, rfl, hO, fun _ => hN⟩, hC, hF, hX⟩
theorem st_from (p1 : Int32) (s : CSt) (t : MSt) (h : REL s t) : ∃ (r : Int32) (s1 : CSt) (t1 : MSt), S7_from p1 s = some (r, s1) ∧ S8_from p1 t = some (r, t1) ∧ REL s1 t1 := by
  obtain ⟨hT, hK, hC, hF, hX⟩ := h
  unfold S7_from S8_from sp_X8_from
  by_cases c0 : sp_X8_in p1 0 1 = 0
  · obtain ⟨b1, b2, b3⟩ := in01_bad c0
    rw [if_neg b2, if_neg b3, if_pos c0]
    unfold S7_from_bad sp_X7_from_bad
    rw [b1]
    exact ⟨_, _, _, rfl, rfl, hT, hK, hC.bad rfl rfl rfl rfl rfl rfl, hF, hX⟩
  · rw [if_neg c0]
    obtain ⟨q, _, hq, rfl⟩ := in_nat (lo := 0) (hi := 1) c0 (by omega) (by omega)
    have hK0 := hK
    obtain ⟨a, b, ha, hb, ek, ea, eb, ka, kb⟩ := hK
    obtain ⟨_, _, k1, k2⟩ := kp_set a (by omega) b (by omega)
    match q, hq with
    | 0, _ =>
      rw [if_pos (show nI 0 = 0 from rfl)]
      unfold S7_from_0 sp_X7_from_0
      rw [gi_n (by omega) (by omega), show (nI 0).toNatClampNeg = 0 from nI_clamp (by omega), ea, has_eq, ek, k1]
      by_cases c1 : a = 0
      · rw [if_pos (by rw [c1]; rfl), if_pos (by rw [c1]; rfl)]
        exact ⟨_, _, _, rfl, rfl, hT, hK0, ⟨hC.1, congrArg (· + 1) hC.2.1, hC.2.2⟩, hF, hX⟩
      · have v1 : a = 1 := by omega
        have hI := ka v1
        rw [if_neg (nI_ne0 (by omega) (by omega)), if_neg (nI_ne0 (by omega) (by omega))]
        obtain ⟨n, n8, en⟩ := TR.np hI
        obtain ⟨g, g1, g2, g3⟩ := copd (n0 := 1364) (n2 := 682) (a := 0) (b := 0) (N := 682) (f := t.2.2 4) (g := t.2.2 1) (by omega) (by omega) (by omega) (by omega) (by omega)
        have g1 : sp_X8_copies_d 1364 682 (682 * nI 0) 0 682 (t.2.2 4) (t.2.2 1) = some g := g1
        unfold sp_X6_copyFrom
        rw [g1, en, gi_n (show n < 9 by omega) (by omega), nI_clamp (show n < 2 ^ 31 by omega)]
        simp only [Option.bind_some]
        rw [← en]
        have hN : TR (s.1 18) (s.1 19) (s.1 20) (s.1 21) (s.1 22) (s.1 23) (s.1 24) (s.2.2.1 14) (s.2.2.1 15) (s.2.2.1 16) (s.2.2.1 17) (s.2.2.1 18) (s.2.2.1 19) (s.2.2.1 20) (cpTo n (s.2.2.2.1 4) (s.2.2.2.1 0)) (cpTo n (s.2.2.2.1 5) (s.2.2.2.1 1)) (cpTo n (s.2.2.2.2.1 6) (s.2.2.2.2.1 0)) (cpTo n (s.2.2.2.2.1 7) (s.2.2.2.2.1 1)) (cpTo n (s.2.2.2.2.1 8) (s.2.2.2.2.1 2)) g 0 := (TR.cp hI en n8 (s.2.2.2.1 0) (s.2.2.2.1 1) (s.2.2.2.2.1 0) (s.2.2.2.2.1 1) (s.2.2.2.2.1 2)).move (fun j hj => g2 j hj)
        exact ⟨_, _, _, rfl, rfl, hN, hK0, hC, hF, hX⟩
    | 1, _ =>
      rw [if_neg (show ¬ nI 1 = 0 from by decide), if_pos (show nI 1 = 1 from rfl)]
      unfold S7_from_1 sp_X7_from_1
      rw [gi_n (by omega) (by omega), show (nI 1).toNatClampNeg = 1 from nI_clamp (by omega), eb, has_eq, ek, k2]
      by_cases c1 : b = 0
      · rw [if_pos (by rw [c1]; rfl), if_pos (by rw [c1]; rfl)]
        exact ⟨_, _, _, rfl, rfl, hT, hK0, ⟨hC.1, congrArg (· + 1) hC.2.1, hC.2.2⟩, hF, hX⟩
      · have v1 : b = 1 := by omega
        have hI := kb v1
        rw [if_neg (nI_ne0 (by omega) (by omega)), if_neg (nI_ne0 (by omega) (by omega))]
        obtain ⟨n, n8, en⟩ := TR.np hI
        obtain ⟨g, g1, g2, g3⟩ := copd (n0 := 1364) (n2 := 682) (a := 682) (b := 0) (N := 682) (f := t.2.2 4) (g := t.2.2 1) (by omega) (by omega) (by omega) (by omega) (by omega)
        have g1 : sp_X8_copies_d 1364 682 (682 * nI 1) 0 682 (t.2.2 4) (t.2.2 1) = some g := g1
        unfold sp_X6_copyFrom
        rw [g1, en, gi_n (show n < 9 by omega) (by omega), nI_clamp (show n < 2 ^ 31 by omega)]
        simp only [Option.bind_some]
        rw [← en]
        have hN : TR (s.1 25) (s.1 26) (s.1 27) (s.1 28) (s.1 29) (s.1 30) (s.1 31) (s.2.2.1 21) (s.2.2.1 22) (s.2.2.1 23) (s.2.2.1 24) (s.2.2.1 25) (s.2.2.1 26) (s.2.2.1 27) (cpTo n (s.2.2.2.1 6) (s.2.2.2.1 0)) (cpTo n (s.2.2.2.1 7) (s.2.2.2.1 1)) (cpTo n (s.2.2.2.2.1 9) (s.2.2.2.2.1 0)) (cpTo n (s.2.2.2.2.1 10) (s.2.2.2.2.1 1)) (cpTo n (s.2.2.2.2.1 11) (s.2.2.2.2.1 2)) g 0 := (TR.cp hI en n8 (s.2.2.2.1 0) (s.2.2.2.1 1) (s.2.2.2.2.1 0) (s.2.2.2.2.1 1) (s.2.2.2.2.1 2)).move (fun j hj => g2 j hj)
        exact ⟨_, _, _, rfl, rfl, hN, hK0, hC, hF, hX⟩
