/-! pure: how the class's state and the model's lie to each other -/
/-- a site: off, year, heights, storeys; in the model's row from o on -/
def SR (off year : Int32) (h k t : Nat → Int32) (w : Nat → Int32) (o : Nat) : Prop :=
  off = w o ∧ bt off ∧ (∃ n : Nat, n ≤ 9999 ∧ year = nI n ∧ w (o + 1) = nI n) ∧
  ∀ p : Nat, p < 6 → ∃ n : Nat, n ≤ 5 ∧ h p = nI n ∧ w (o + 2 + p) = nI n ∧ ∀ i : Nat, i < n → k (p * 5 + i) = w (o + 8 + 10 * p + 2 * i) ∧ t (p * 5 + i) = w (o + 9 + 10 * p + 2 * i) ∧ bt (t (p * 5 + i))
def PU (pulls w : Nat → Int32) (o : Nat) : Prop := ∀ i : Nat, i < 6 → pulls i = w (o + 69 + i) ∧ bt (pulls i)
def ME (members : Int32) (views w : Nat → Int32) (o : Nat) : Prop := ∃ n : Nat, n ≤ 5 ∧ members = nI n ∧ w (o + 75) = nI n ∧ ∀ i : Nat, i < n → views i = w (o + 76 + i)
def NO (nc : Int32) (notes w : Nat → Int32) (o : Nat) : Prop := ∃ n : Nat, n ≤ 6 ∧ nc = nI n ∧ w (o + 81) = nI n ∧ ∀ i : Nat, i < n → yr (notes (4 * i + 2)) ∧ ∀ j : Nat, j < 4 → notes (4 * i + j) = w (o + 82 + (4 * i + j))
def MA (mc : Int32) (marks w : Nat → Int32) (o : Nat) : Prop := ∃ n : Nat, n ≤ 6 ∧ mc = nI n ∧ w (o + 106) = nI n ∧ ∀ i : Nat, i < n → bt (marks (5 * i + 1)) ∧ ∀ j : Nat, j < 5 → marks (5 * i + j) = w (o + 107 + (5 * i + j))
def PA (pasts : Int32) (pO pY : Nat → Int32) (ph pk pt : Nat → Nat → Int32) (w : Nat → Int32) (o : Nat) : Prop := ∃ n : Nat, n ≤ 8 ∧ pasts = nI n ∧ w (o + 137) = nI n ∧ ∀ i : Nat, i < n → SR (pO i) (pY i) (ph i) (pk i) (pt i) w (o + (138 + 68 * i))
def TR (kind pasts members nc mc off year : Int32) (pulls h k t views notes marks : Nat → Int32) (pO pY : Nat → Int32) (ph pk pt : Nat → Nat → Int32) (w : Nat → Int32) (o : Nat) : Prop :=
  kind = w o ∧ SR off year h k t w (o + 1) ∧ PU pulls w o ∧ ME members views w o ∧ NO nc notes w o ∧ MA mc marks w o ∧ PA pasts pO pY ph pk pt w o
/-- a site's picture does not hang on cells outside -/
theorem SR.cong {off year : Int32} {h k t : Nat → Int32} {w w' : Nat → Int32} {o : Nat} (H : SR off year h k t w o) (e : ∀ j : Nat, o ≤ j → j < o + 68 → w' j = w j) : SR off year h k t w' o := by
  obtain ⟨h1, h2, ⟨n, n1, n2, n3⟩, h4⟩ := H
  refine ⟨by rw [h1, e o (by omega) (by omega)], h2, ⟨n, n1, n2, by rw [e _ (by omega) (by omega), n3]⟩, fun p hp => ?_⟩
  obtain ⟨m, m1, m2, m3, m4⟩ := h4 p hp
  refine ⟨m, m1, m2, by rw [e _ (by omega) (by omega), m3], fun i hi => ?_⟩
  obtain ⟨a, b, c⟩ := m4 i hi
  exact ⟨by rw [a, e _ (by omega) (by omega)], by rw [b, e _ (by omega) (by omega)], c⟩
/-- a site moved to another place -/
theorem SR.move {off year : Int32} {h k t : Nat → Int32} {w w' : Nat → Int32} {o o' : Nat} (H : SR off year h k t w o) (e : ∀ j : Nat, j < 68 → w' (o' + j) = w (o + j)) : SR off year h k t w' o' := by
  obtain ⟨h1, h2, ⟨n, n1, n2, n3⟩, h4⟩ := H
  refine ⟨by rw [h1]; exact (e 0 (by omega)).symm, h2, ⟨n, n1, n2, by rw [e 1 (by omega), n3]⟩, fun p hp => ?_⟩
  obtain ⟨m, m1, m2, m3, m4⟩ := h4 p hp
  refine ⟨m, m1, m2, by rw [Nat.add_assoc, e _ (by omega), ← Nat.add_assoc, m3], fun i hi => ?_⟩
  obtain ⟨a, b, c⟩ := m4 i hi
  refine ⟨?_, ?_, c⟩
  · rw [a, show o + 8 + 10 * p + 2 * i = o + (8 + 10 * p + 2 * i) by omega, show o' + 8 + 10 * p + 2 * i = o' + (8 + 10 * p + 2 * i) by omega, e _ (by omega)]
  · rw [b, show o + 9 + 10 * p + 2 * i = o + (9 + 10 * p + 2 * i) by omega, show o' + 9 + 10 * p + 2 * i = o' + (9 + 10 * p + 2 * i) by omega, e _ (by omega)]
theorem PU.cong {pulls w w' : Nat → Int32} {o : Nat} (H : PU pulls w o) (e : ∀ j : Nat, o + 69 ≤ j → j < o + 75 → w' j = w j) : PU pulls w' o := fun i hi => ⟨by rw [(H i hi).1, e _ (by omega) (by omega)], (H i hi).2⟩
theorem ME.cong {c : Int32} {f w w' : Nat → Int32} {o : Nat} (H : ME c f w o) (e : ∀ j : Nat, o + 75 ≤ j → j < o + 81 → w' j = w j) : ME c f w' o := by
  obtain ⟨n, a, b, c, d⟩ := H
  exact ⟨n, a, b, by rw [e _ (by omega) (by omega), c], fun i hi => by rw [d i hi, e _ (by omega) (by omega)]⟩
theorem NO.cong {c : Int32} {f w w' : Nat → Int32} {o : Nat} (H : NO c f w o) (e : ∀ j : Nat, o + 81 ≤ j → j < o + 106 → w' j = w j) : NO c f w' o := by
  obtain ⟨n, a, b, c, d⟩ := H
  exact ⟨n, a, b, by rw [e _ (by omega) (by omega), c], fun i hi => ⟨(d i hi).1, fun j hj => by rw [(d i hi).2 j hj, e _ (by omega) (by omega)]⟩⟩
theorem MA.cong {c : Int32} {f w w' : Nat → Int32} {o : Nat} (H : MA c f w o) (e : ∀ j : Nat, o + 106 ≤ j → j < o + 137 → w' j = w j) : MA c f w' o := by
  obtain ⟨n, a, b, c, d⟩ := H
  exact ⟨n, a, b, by rw [e _ (by omega) (by omega), c], fun i hi => ⟨(d i hi).1, fun j hj => by rw [(d i hi).2 j hj, e _ (by omega) (by omega)]⟩⟩
theorem PA.cong {c : Int32} {pO pY : Nat → Int32} {ph pk pt : Nat → Nat → Int32} {w w' : Nat → Int32} {o : Nat} (H : PA c pO pY ph pk pt w o) (e : ∀ j : Nat, o + 137 ≤ j → j < o + 682 → w' j = w j) : PA c pO pY ph pk pt w' o := by
  obtain ⟨n, a, b, c, d⟩ := H
  exact ⟨n, a, b, by rw [e _ (by omega) (by omega), c], fun i hi => (d i hi).cong (fun j h1 h2 => e j (by omega) (by omega))⟩
/-- a town moved to another place -/
theorem TR.move {kind pasts members nc mc off year : Int32} {pulls h k t views notes marks pO pY : Nat → Int32} {ph pk pt : Nat → Nat → Int32} {w w' : Nat → Int32} {o o' : Nat} (H : TR kind pasts members nc mc off year pulls h k t views notes marks pO pY ph pk pt w o) (e : ∀ j : Nat, j < 682 → w' (o' + j) = w (o + j)) : TR kind pasts members nc mc off year pulls h k t views notes marks pO pY ph pk pt w' o' := by
  obtain ⟨h1, h2, h3, ⟨n4, a4, b4, c4, d4⟩, ⟨n5, a5, b5, c5, d5⟩, ⟨n6, a6, b6, c6, d6⟩, ⟨n7, a7, b7, c7, d7⟩⟩ := H
  refine ⟨by rw [h1]; exact (e 0 (by omega)).symm, h2.move (fun j hj => by rw [Nat.add_assoc, e _ (by omega), ← Nat.add_assoc]), fun i hi => ⟨by rw [(h3 i hi).1, Nat.add_assoc, Nat.add_assoc, e _ (by omega)], (h3 i hi).2⟩,
    ⟨n4, a4, b4, by rw [e _ (by omega), c4], fun i hi => by rw [d4 i hi, Nat.add_assoc, Nat.add_assoc, e _ (by omega)]⟩,
    ⟨n5, a5, b5, by rw [e _ (by omega), c5], fun i hi => ⟨(d5 i hi).1, fun j hj => by rw [(d5 i hi).2 j hj, Nat.add_assoc, Nat.add_assoc, e _ (by omega)]⟩⟩,
    ⟨n6, a6, b6, by rw [e _ (by omega), c6], fun i hi => ⟨(d6 i hi).1, fun j hj => by rw [(d6 i hi).2 j hj, Nat.add_assoc, Nat.add_assoc, e _ (by omega)]⟩⟩,
    ⟨n7, a7, b7, by rw [e _ (by omega), c7], fun i hi => (d7 i hi).move (fun j hj => by rw [Nat.add_assoc, e _ (by omega), ← Nat.add_assoc])⟩⟩
/-- the images and which are kept -/
def KR (s : CSt) (t : MSt) : Prop :=
  ∃ a b : Nat, a ≤ 1 ∧ b ≤ 1 ∧ s.1 0 = nI (a + 2 * b) ∧ t.2.2 5 0 = nI a ∧ t.2.2 5 1 = nI b ∧
  (a = 1 → TR (s.1 18) (s.1 19) (s.1 20) (s.1 21) (s.1 22) (s.1 23) (s.1 24) (s.2.2.1 14) (s.2.2.1 15) (s.2.2.1 16) (s.2.2.1 17) (s.2.2.1 18) (s.2.2.1 19) (s.2.2.1 20) (s.2.2.2.1 4) (s.2.2.2.1 5) (s.2.2.2.2.1 6) (s.2.2.2.2.1 7) (s.2.2.2.2.1 8) (t.2.2 4) 0) ∧
  (b = 1 → TR (s.1 25) (s.1 26) (s.1 27) (s.1 28) (s.1 29) (s.1 30) (s.1 31) (s.2.2.1 21) (s.2.2.1 22) (s.2.2.1 23) (s.2.2.1 24) (s.2.2.1 25) (s.2.2.1 26) (s.2.2.1 27) (s.2.2.2.1 6) (s.2.2.2.1 7) (s.2.2.2.2.1 9) (s.2.2.2.2.1 10) (s.2.2.2.2.1 11) (t.2.2 4) 682)
/-- what was refused -/
def CR (s : CSt) (t : MSt) : Prop := s.1 1 = t.2.2 6 0 ∧ s.1 2 = t.2.2 6 1 ∧ s.1 3 = t.2.2 6 2
def FR (s : CSt) (t : MSt) : Prop := s.2.1 0 = t.2.1 0 ∧ s.2.1 1 = t.2.1 1
def XR (s : CSt) (t : MSt) : Prop := ∃ n : Nat, n ≤ 150 ∧ s.1 32 = nI n ∧ t.1 0 = nI n ∧ ∀ j : Nat, j < n → s.2.2.1 28 j = t.2.2 0 j ∧ ∃ b : Nat, b ≤ 127 ∧ t.2.2 0 j = nI b
def TT (s : CSt) (t : MSt) : Prop := TR (s.1 4) (s.1 5) (s.1 6) (s.1 7) (s.1 8) (s.1 9) (s.1 10) (s.2.2.1 0) (s.2.2.1 1) (s.2.2.1 2) (s.2.2.1 3) (s.2.2.1 4) (s.2.2.1 5) (s.2.2.1 6) (s.2.2.2.1 0) (s.2.2.2.1 1) (s.2.2.2.2.1 0) (s.2.2.2.2.1 1) (s.2.2.2.2.1 2) (t.2.2 1) 0
def REL (s : CSt) (t : MSt) : Prop := TT s t ∧ KR s t ∧ CR s t ∧ FR s t ∧ XR s t
theorem cl_0 : (0 : Int32).toNatClampNeg = 0 := by decide
theorem cl_1 : (1 : Int32).toNatClampNeg = 1 := by decide
theorem cl_2 : (2 : Int32).toNatClampNeg = 2 := by decide
theorem cl_3 : (3 : Int32).toNatClampNeg = 3 := by decide
theorem cl_75 : (75 : Int32).toNatClampNeg = 75 := by decide
theorem cl_81 : (81 : Int32).toNatClampNeg = 81 := by decide
theorem cl_106 : (106 : Int32).toNatClampNeg = 106 := by decide
theorem cl_137 : (137 : Int32).toNatClampNeg = 137 := by decide
theorem stp {α : Type} {S : Option (α × CSt)} {M : Option (α × MSt)} {r r' : α} {s1 : CSt} {t1 : MSt} (h1 : S = some (r, s1)) (h2 : M = some (r', t1)) (hr : r' = r) (hT : TT s1 t1) (hK : KR s1 t1) (hC : CR s1 t1) (hF : FR s1 t1) (hX : XR s1 t1) : ∃ (r : α) (s1 : CSt) (t1 : MSt), S = some (r, s1) ∧ M = some (r, t1) ∧ REL s1 t1 := by
  subst hr
  exact ⟨_, _, _, h1, h2, hT, hK, hC, hF, hX⟩
theorem st_clear (s : CSt) (t : MSt) (h : REL s t) : ∃ (r : Int32) (s1 : CSt) (t1 : MSt), S7_clear s = some (r, s1) ∧ S8_clear t = some (r, t1) ∧ REL s1 t1 := by
  obtain ⟨hT, hK, hC, hF, hX⟩ := h
  obtain ⟨n, hn, x1, x2, x3⟩ := hX
  exact stp rfl rfl (by show t.1 0 = s.1 32; rw [x1, x2]) hT hK hC hF ⟨0, by omega, rfl, rfl, fun j hj => absurd hj (by omega)⟩
theorem st_part (p1 : Int32) (s : CSt) (t : MSt) (h : REL s t) : ∃ (r : Int64) (s1 : CSt) (t1 : MSt), S7_part p1 s = some (r, s1) ∧ S8_part p1 t = some (r, t1) ∧ REL s1 t1 := by
  obtain ⟨hT, hK, hC, hF, hX⟩ := h
  unfold S7_part S8_part sp_X7_part sp_X8_part
  by_cases c0 : p1 = 0
  · rw [if_pos c0, if_pos c0]
    exact stp rfl rfl hF.1.symm hT hK hC hF hX
  · rw [if_neg c0, if_neg c0]
    by_cases c1 : p1 = 1
    · rw [if_pos c1, if_pos c1]
      exact stp rfl rfl hF.2.symm hT hK hC hF hX
    · rw [if_neg c1, if_neg c1]
      exact ⟨_, _, _, rfl, rfl, hT, hK, ⟨congrArg (· + 1) hC.1, hC.2.1, hC.2.2⟩, hF, hX⟩
theorem st_type (p1 : Int32) (s : CSt) (t : MSt) (h : REL s t) : ∃ (r : Int32) (s1 : CSt) (t1 : MSt), S7_type p1 s = some (r, s1) ∧ S8_type p1 t = some (r, t1) ∧ REL s1 t1 := by
  obtain ⟨hT, hK, hC, hF, hX⟩ := h
  unfold S7_type S8_type sp_X7_type sp_X8_type
  by_cases c0 : sp_X8_in p1 0 127 = 0
  · rw [if_pos (show sp_X2_within p1 0 127 = 0 from c0), if_pos c0]
    exact ⟨_, _, _, rfl, rfl, hT, hK, ⟨congrArg (· + 1) hC.1, hC.2.1, hC.2.2⟩, hF, hX⟩
  · rw [if_neg (show ¬ sp_X2_within p1 0 127 = 0 from c0), if_neg c0]
    obtain ⟨n, hn, x1, x2, x3⟩ := hX
    rw [x1, x2]
    by_cases c1 : n < 150
    · rw [if_pos (show nI n < 150 from nI_lt (b := 150) c1 (by omega)), if_neg (show ¬ nI n = 150 from fun q => absurd ((nI_eq (b := 150) (by omega) (by omega)).mp q) (by omega)), gi_n c1 (by omega), put_n c1 (by omega), nI_clamp (by omega)]
      refine ⟨_, _, _, rfl, rfl, hT, hK, hC, hF, ⟨n + 1, by omega, (nI_succ n).symm, (nI_succ n).symm, fun j hj => ?_⟩⟩
      show upd (s.2.2.1 28) n p1 j = upd (t.2.2 0) n p1 j ∧ ∃ b : Nat, b ≤ 127 ∧ upd (t.2.2 0) n p1 j = nI b
      by_cases hjn : j = n
      · rw [hjn, upd_s, upd_s]
        obtain ⟨b, _, hb, e⟩ := in_nat (lo := 0) (hi := 127) c0 (by omega) (by omega)
        exact ⟨rfl, b, hb, e⟩
      · rw [upd_o hjn, upd_o hjn]; exact x3 j (by omega)
    · have e : n = 150 := by omega
      subst e
      rw [if_neg (show ¬ nI 150 < 150 from by decide), if_pos (show nI 150 = 150 from rfl)]
      exact ⟨_, _, _, rfl, rfl, hT, hK, ⟨hC.1, hC.2.1, congrArg (· + 1) hC.2.2⟩, hF, ⟨150, by omega, rfl, rfl, x3⟩⟩
