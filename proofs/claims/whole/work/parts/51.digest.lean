/-! pure: the digest -/
def dg (f : Nat → Int32) : Nat → Int64 → Int64
  | 0, h => h
  | n + 1, h => 31 * dg f n h + (f n).toInt64
theorem dg_cong {f g : Nat → Int32} : ∀ (n : Nat) (h : Int64), (∀ i : Nat, i < n → f i = g i) → dg f n h = dg g n h
  | 0, _, _ => rfl
  | n + 1, h, e => by
    show 31 * dg f n h + (f n).toInt64 = 31 * dg g n h + (g n).toInt64
    rw [dg_cong n h (fun i hi => e i (by omega)), e n (by omega)]
theorem digC {n1 N : Nat} {row : Nat → Int32} (h : Int64) (hN : N ≤ n1) (hn : n1 < 1000) : sp_X2_digested n1 h (nI N) row = some (dg row N h) := by
  obtain ⟨r, e1, q1⟩ := lk1 (L := fun fu (s : Int64 × Int32) => lp_X2_digested_6 n1 (nI N) row fu s.1 s.2)
    (fun d s => ∃ i : Nat, i + d = N ∧ s.2 = nI i ∧ s.1 = dg row i h) (fun r => r.1 = dg row N h) (by
    rintro d fu ⟨x, y⟩ hd ⟨i, hi, e, ex⟩
    simp only at e ex
    subst e; subst ex
    dsimp only
    rw [lp_X2_digested_6]
    cases d with
    | zero =>
      obtain rfl : i = N := by omega
      rw [if_pos (Int32.le_refl _)]
      exact Or.inl ⟨_, rfl, rfl⟩
    | succ d =>
      rw [if_neg (nI_ge (by omega) (by omega)), at_n (by omega) (by omega), nI_1]
      exact Or.inr ⟨d, (_, _), rfl, rfl, i + 1, by omega, rfl, rfl⟩) N FU (h, nI 0) (by rw [FU_eq]; omega) ⟨0, by omega, rfl, rfl⟩
  have e1 : lp_X2_digested_6 n1 (nI N) row FU h 0 = some r := e1
  unfold sp_X2_digested
  rw [e1, ← q1]; rfl
theorem digP {N : Nat} {w : Nat → Int32} (h : Int64) (hN : N ≤ 6) (hN6 : nI N = 6) (hN7 : N = 6) : ∃ r : Int64 × Int32, lp_X8_digest_59 w FU h 0 = some r ∧ r.1 = dg (fun k => w (69 + k)) N h := by
  exact lk1 (L := fun fu (s : Int64 × Int32) => lp_X8_digest_59 w fu s.1 s.2)
    (fun d s => ∃ i : Nat, i + d = N ∧ s.2 = nI i ∧ s.1 = dg (fun k => w (69 + k)) i h) (fun r => r.1 = dg (fun k => w (69 + k)) N h) (by
    rintro d fu ⟨x, y⟩ hd ⟨i, hi, e, ex⟩
    simp only at e ex
    subst e; subst ex
    dsimp only
    rw [lp_X8_digest_59]
    have ea : (69 : Int32) + nI i = nI (69 + i) := nI_add 69 i
    cases d with
    | zero =>
      obtain rfl : i = N := by omega
      rw [if_pos (show (6 : Int32) ≤ nI i from by rw [hN6]; exact Int32.le_refl _)]
      exact Or.inl ⟨_, rfl, rfl⟩
    | succ d =>
      rw [if_neg (show ¬ (6 : Int32) ≤ nI _ from nI_ge (b := 6) (by omega) (by omega)), ea, gi_n (by omega) (by omega), nI_clamp (by omega), nI_1]
      exact Or.inr ⟨d, (_, _), rfl, rfl, i + 1, by omega, rfl, rfl⟩) N FU (h, nI 0) (by rw [FU_eq]; omega) ⟨0, by omega, rfl, rfl⟩
theorem digV {N : Nat} {w : Nat → Int32} (h : Int64) (hN : N ≤ 5) (hw : w 75 = nI N) : ∃ r : Int64 × Int32, lp_X8_digest_167 w FU h 0 = some r ∧ r.1 = dg (fun k => w (76 + k)) N h := by
  exact lk1 (L := fun fu (s : Int64 × Int32) => lp_X8_digest_167 w fu s.1 s.2)
    (fun d s => ∃ i : Nat, i + d = N ∧ s.2 = nI i ∧ s.1 = dg (fun k => w (76 + k)) i h) (fun r => r.1 = dg (fun k => w (76 + k)) N h) (by
    rintro d fu ⟨x, y⟩ hd ⟨i, hi, e, ex⟩
    simp only at e ex
    subst e; subst ex
    dsimp only
    rw [lp_X8_digest_167]
    simp only [cl_75, hw]
    have ea : (76 : Int32) + nI i = nI (76 + i) := nI_add 76 i
    cases d with
    | zero =>
      obtain rfl : i = N := by omega
      rw [if_pos (Int32.le_refl _)]
      exact Or.inl ⟨_, rfl, rfl⟩
    | succ d =>
      rw [if_neg (nI_ge (by omega) (by omega)), ea, gi_n (by omega) (by omega), nI_clamp (by omega), nI_1]
      exact Or.inr ⟨d, (_, _), rfl, rfl, i + 1, by omega, rfl, rfl⟩) N FU (h, nI 0) (by rw [FU_eq]; omega) ⟨0, by omega, rfl, rfl⟩
theorem pm4 (n : Nat) : (4 : Int32) * nI n = nI (4 * n) := pk_mul 4 n
theorem pm5 (n : Nat) : (5 : Int32) * nI n = nI (5 * n) := pk_mul 5 n
theorem pm2 (n : Nat) : (2 : Int32) * nI n = nI (2 * n) := pk_mul 2 n
theorem pm10 (n : Nat) : (10 : Int32) * nI n = nI (10 * n) := pk_mul 10 n
theorem digN {N : Nat} {w : Nat → Int32} (h : Int64) (hN : N ≤ 24) {n : Nat} (hw : w 81 = nI n) (hNn : 4 * n = N) : ∃ r : Int64 × Int32, lp_X8_digest_203 w FU h 0 = some r ∧ r.1 = dg (fun k => w (82 + k)) N h := by
  exact lk1 (L := fun fu (s : Int64 × Int32) => lp_X8_digest_203 w fu s.1 s.2)
    (fun d s => ∃ i : Nat, i + d = N ∧ s.2 = nI i ∧ s.1 = dg (fun k => w (82 + k)) i h) (fun r => r.1 = dg (fun k => w (82 + k)) N h) (by
    rintro d fu ⟨x, y⟩ hd ⟨i, hi, e, ex⟩
    simp only at e ex
    subst e; subst ex
    dsimp only
    rw [lp_X8_digest_203]
    subst hNn
    simp only [cl_81, hw, pm4]
    have ea : (82 : Int32) + nI i = nI (82 + i) := nI_add 82 i
    cases d with
    | zero =>
      obtain rfl : i = 4 * n := by omega
      rw [if_pos (Int32.le_refl _)]
      exact Or.inl ⟨_, rfl, rfl⟩
    | succ d =>
      rw [if_neg (nI_ge (by omega) (by omega)), ea, gi_n (by omega) (by omega), nI_clamp (by omega), nI_1]
      exact Or.inr ⟨d, (_, _), rfl, rfl, i + 1, by omega, rfl, rfl⟩) N FU (h, nI 0) (by rw [FU_eq]; omega) ⟨0, by omega, rfl, rfl⟩
theorem digM {N : Nat} {w : Nat → Int32} (h : Int64) (hN : N ≤ 30) {n : Nat} (hw : w 106 = nI n) (hNn : 5 * n = N) : ∃ r : Int64 × Int32, lp_X8_digest_241 w FU h 0 = some r ∧ r.1 = dg (fun k => w (107 + k)) N h := by
  exact lk1 (L := fun fu (s : Int64 × Int32) => lp_X8_digest_241 w fu s.1 s.2)
    (fun d s => ∃ i : Nat, i + d = N ∧ s.2 = nI i ∧ s.1 = dg (fun k => w (107 + k)) i h) (fun r => r.1 = dg (fun k => w (107 + k)) N h) (by
    rintro d fu ⟨x, y⟩ hd ⟨i, hi, e, ex⟩
    simp only at e ex
    subst e; subst ex
    dsimp only
    rw [lp_X8_digest_241]
    subst hNn
    simp only [cl_106, hw, pm5]
    have ea : (107 : Int32) + nI i = nI (107 + i) := nI_add 107 i
    cases d with
    | zero =>
      obtain rfl : i = 5 * n := by omega
      rw [if_pos (Int32.le_refl _)]
      exact Or.inl ⟨_, rfl, rfl⟩
    | succ d =>
      rw [if_neg (nI_ge (by omega) (by omega)), ea, gi_n (by omega) (by omega), nI_clamp (by omega), nI_1]
      exact Or.inr ⟨d, (_, _), rfl, rfl, i + 1, by omega, rfl, rfl⟩) N FU (h, nI 0) (by rw [FU_eq]; omega) ⟨0, by omega, rfl, rfl⟩
theorem digS1 {p n : Nat} {hh k t w : Nat → Int32} (h : Int64) (hp : p < 6) (hn : n ≤ 5) (e1 : hh p = nI n) (e3 : ∀ i : Nat, i < n → k (p * 5 + i) = w (9 + 10 * p + 2 * i) ∧ t (p * 5 + i) = w (10 + 10 * p + 2 * i) ∧ bt (t (p * 5 + i))) : ∃ r : Int64 × Int32, lp_X3_digested_29 hh k t (nI p) FU h 0 = some r ∧ r.1 = dg (fun j => w (9 + 10 * p + j)) (2 * n) h := by
  exact lk1 (L := fun fu (s : Int64 × Int32) => lp_X3_digested_29 hh k t (nI p) fu s.1 s.2)
    (fun d s => ∃ i : Nat, i + d = n ∧ s.2 = nI i ∧ s.1 = dg (fun j => w (9 + 10 * p + j)) (2 * i) h) (fun r => r.1 = dg (fun j => w (9 + 10 * p + j)) (2 * n) h) (by
    rintro d fu ⟨x, y⟩ hd ⟨i, hi, e, ex⟩
    simp only at e ex
    subst e; subst ex
    dsimp only
    rw [lp_X3_digested_29, height_n hp, e1]
    cases d with
    | zero =>
      obtain rfl : i = n := by omega
      rw [if_pos (Int32.le_refl _)]
      exact Or.inl ⟨_, rfl, rfl⟩
    | succ d =>
      obtain ⟨g1, g2, _⟩ := e3 i (by omega)
      rw [if_neg (nI_ge (by omega) (by omega)), kindAt_n hp (by omega), tiltAt_n hp (by omega), nI_1, g1, g2]
      refine Or.inr ⟨d, (_, _), rfl, rfl, i + 1, by omega, rfl, ?_⟩
      show 31 * (31 * dg (fun j => w (9 + 10 * p + j)) (2 * i) h + (w (9 + 10 * p + 2 * i)).toInt64) + (w (10 + 10 * p + 2 * i)).toInt64 = 31 * (31 * dg (fun j => w (9 + 10 * p + j)) (2 * i) h + (w (9 + 10 * p + 2 * i)).toInt64) + (w (9 + 10 * p + (2 * i + 1))).toInt64
      rw [show 10 + 10 * p + 2 * i = 9 + 10 * p + (2 * i + 1) by omega]) n FU (h, nI 0) (by rw [FU_eq]; omega) ⟨0, by omega, rfl, rfl⟩
theorem digS2 {p n : Nat} {w : Nat → Int32} (h : Int64) (hp : p < 6) (hn : n ≤ 5) (e1 : w (3 + p) = nI n) : ∃ r : Int64 × Int32, lp_X8_digest_115 w (nI p) FU h 0 = some r ∧ r.1 = dg (fun j => w (9 + 10 * p + j)) (2 * n) h := by
  exact lk1 (L := fun fu (s : Int64 × Int32) => lp_X8_digest_115 w (nI p) fu s.1 s.2)
    (fun d s => ∃ i : Nat, i + d = 2 * n ∧ s.2 = nI i ∧ s.1 = dg (fun j => w (9 + 10 * p + j)) i h) (fun r => r.1 = dg (fun j => w (9 + 10 * p + j)) (2 * n) h) (by
    rintro d fu ⟨x, y⟩ hd ⟨i, hi, e, ex⟩
    simp only at e ex
    subst e; subst ex
    dsimp only
    have ea : (9 : Int32) + nI (10 * p) = nI (9 + 10 * p) := nI_add 9 _
    rw [lp_X8_digest_115]
    simp only [n3, nI_clamp (show 3 + p < 2 ^ 31 by omega), e1, pm2, pm10, ea, nI_add]
    cases d with
    | zero =>
      obtain rfl : i = 2 * n := by omega
      rw [if_pos (Int32.le_refl _)]
      exact Or.inl ⟨_, rfl, rfl⟩
    | succ d =>
      rw [if_neg (nI_ge (by omega) (by omega)), gi_n (by omega) (by omega), nI_clamp (by omega), nI_1]
      exact Or.inr ⟨d, (_, _), rfl, rfl, i + 1, by omega, rfl, rfl⟩) (2 * n) FU (h, nI 0) (by rw [FU_eq]; omega) ⟨0, by omega, rfl, rfl⟩
theorem digS {hh k t w : Nat → Int32} (h : Int64) (H : HS hh k t w) : ∃ r r' : Int64 × Int32, lp_X3_digested_5 hh k t FU h 0 = some r ∧ lp_X8_digest_90 w FU h 0 = some r' ∧ r.1 = r'.1 := by
  refine lk (L := fun fu (s : Int64 × Int32) => lp_X3_digested_5 hh k t fu s.1 s.2) (M := fun fu (s : Int64 × Int32) => lp_X8_digest_90 w fu s.1 s.2)
    (fun d s t' => s = t' ∧ ∃ i : Nat, i + d = 6 ∧ s.2 = nI i) (fun r k => r.1 = k.1) (by
    rintro d fu ⟨x, y⟩ s' hd ⟨rfl, i, hi, e⟩
    simp only at e
    subst e
    dsimp only
    rw [lp_X3_digested_5, lp_X8_digest_90]
    cases d with
    | zero =>
      obtain rfl : i = 6 := by omega
      rw [if_pos (show (6 : Int32) ≤ nI 6 from by decide), if_pos (show (6 : Int32) ≤ nI 6 from by decide)]
      exact Or.inl ⟨_, _, rfl, rfl, rfl⟩
    | succ d =>
      obtain ⟨n, hn, e1, e2, e3⟩ := H i (by omega)
      obtain ⟨r, r1, r2⟩ := digS1 (31 * x + (nI n).toInt64) (show i < 6 by omega) hn e1 e3
      obtain ⟨u, u1, u2⟩ := digS2 (31 * x + (nI n).toInt64) (show i < 6 by omega) hn e2
      rw [if_neg (show ¬ (6 : Int32) ≤ nI _ from nI_ge (b := 6) (by omega) (by omega)), if_neg (show ¬ (6 : Int32) ≤ nI _ from nI_ge (b := 6) (by omega) (by omega)), n3, gi_n (by omega) (by omega), nI_clamp (by omega), height_n (by omega), e1, e2, r1, u1, nI_1]
      simp only [Option.bind_some]
      rw [r2, u2]
      exact Or.inr ⟨d, (_, _), (_, _), rfl, rfl, rfl, rfl, i + 1, by omega, rfl⟩) 6 FU (h, nI 0) (h, nI 0) (by rw [FU_eq]; omega) ⟨rfl, 0, by omega, rfl⟩
theorem digK {s : CSt} {t : MSt} {c : Int32} (hT : TT s t) (hX : XR s t) : ∃ (r : Int64 × Int32 × Int32) (r' : Int64 × Int32), lp_X7_digest_6 (s.1 5) (s.1 6) (s.1 7) (s.1 8) (s.1 10) (s.2.2.1 1) (s.1 32) FU 1489 0 c = some r ∧ lp_X8_digest_6 (t.1 0) (t.2.2 1) FU 1489 0 = some r' ∧ r.1 = r'.1 ∧ r.2.2 = c := by
  refine lk (L := fun fu (x : Int64 × Int32 × Int32) => lp_X7_digest_6 (s.1 5) (s.1 6) (s.1 7) (s.1 8) (s.1 10) (s.2.2.1 1) (s.1 32) fu x.1 x.2.1 x.2.2) (M := fun fu (x : Int64 × Int32) => lp_X8_digest_6 (t.1 0) (t.2.2 1) fu x.1 x.2)
    (fun d x y => x.1 = y.1 ∧ x.2.1 = y.2 ∧ x.2.2 = c ∧ ∃ i : Nat, i + d = 7 ∧ x.2.1 = nI i) (fun r k => r.1 = k.1 ∧ r.2.2 = c) (by
    rintro d fu ⟨x, y, z⟩ ⟨x', y'⟩ hd ⟨rfl, rfl, hz, i, hi, e⟩
    simp only at e hz
    subst e; subst hz
    dsimp only
    rw [lp_X7_digest_6, lp_X8_digest_6]
    cases d with
    | zero =>
      obtain rfl : i = 7 := by omega
      rw [if_pos (show (6 : Int32) < nI 7 from by decide), if_pos (show (7 : Int32) ≤ nI 7 from by decide)]
      exact Or.inl ⟨_, _, rfl, rfl, rfl, rfl⟩
    | succ d =>
      obtain ⟨r, r1, r2⟩ := count_eq (c := z) hT hX ⟨i, by omega, rfl⟩
      rw [if_neg (show ¬ (6 : Int32) < nI i from nI_nlt (b := i) (a := 6) (by omega) (by omega)), if_neg (show ¬ (7 : Int32) ≤ nI _ from nI_ge (b := 7) (by omega) (by omega)), r1, r2, nI_1]
      simp only [Option.bind_some]
      exact Or.inr ⟨d, (_, _, _), (_, _), rfl, rfl, rfl, rfl, rfl, rfl, i + 1, by omega, rfl⟩) 7 FU (1489, nI 0, c) (1489, nI 0) (by rw [FU_eq]; omega) ⟨rfl, rfl, rfl, 0, by omega, rfl⟩
theorem st_digest (s : CSt) (t : MSt) (h : REL s t) : ∃ (r : Int64) (s1 : CSt) (t1 : MSt), S7_digest s = some (r, s1) ∧ S8_digest t = some (r, t1) ∧ REL s1 t1 := by
  obtain ⟨hT, hK, hC, hF, hX⟩ := h
  unfold S7_digest S8_digest sp_X7_digest sp_X8_digest
  obtain ⟨r, r', e1, e2, e3, e4⟩ := digK (c := s.1 1) hT hX
  obtain ⟨nm, hnm, m1, m2, m3⟩ := hT.mems
  obtain ⟨nn, hnn, n1, n2, n3'⟩ := hT.notes
  obtain ⟨nk, hnk, k1, k2, k3⟩ := hT.marks
  rw [e1, e2]
  simp only [Option.bind_some, cl_0, cl_1]
  rw [← hT.kind, ← hT.off, e3]
  obtain ⟨h0, hh0⟩ : ∃ h0, h0 = 31 * (31 * r'.1 + (s.1 4).toInt64) + (s.1 9).toInt64 := ⟨_, rfl⟩
  rw [← hh0]
  obtain ⟨p, p1, p2⟩ := digP (N := 6) (w := t.2.2 1) h0 (by omega) rfl rfl
  have c1 : sp_X2_digested 6 h0 6 (s.2.2.1 0) = some (dg (s.2.2.1 0) 6 h0) := digC h0 (N := 6) (by omega) (by omega)
  have q1 : dg (s.2.2.1 0) 6 h0 = p.1 := by rw [p2]; exact dg_cong 6 h0 (fun i hi => hT.pulls i hi)
  rw [p1, c1, q1]
  simp only [Option.bind_some]
  obtain ⟨a, b, a1, b1, ab⟩ := digS p.1 hT.hs
  unfold sp_X3_digested
  rw [a1, b1]
  simp only [Option.bind_some]
  rw [ab, m1]
  obtain ⟨v, v1, v2⟩ := digV (w := t.2.2 1) b.1 hnm m2
  have c2 : sp_X2_digested 5 b.1 (nI nm) (s.2.2.1 4) = some (dg (s.2.2.1 4) nm b.1) := digC b.1 (by omega) (by omega)
  have q2 : dg (s.2.2.1 4) nm b.1 = v.1 := by rw [v2]; exact dg_cong nm b.1 (fun i hi => m3 i hi)
  rw [v1, c2, q2]
  simp only [Option.bind_some]
  obtain ⟨u, u1, u2⟩ := digN (N := 4 * nn) (w := t.2.2 1) v.1 (by omega) n2 rfl
  have x4 : s.1 7 * 4 = nI (4 * nn) := by rw [n1, Nat.mul_comm]; exact pk_mul nn 4
  have c3 : sp_X2_digested 24 v.1 (nI (4 * nn)) (s.2.2.1 5) = some (dg (s.2.2.1 5) (4 * nn) v.1) := digC v.1 (by omega) (by omega)
  have q3 : dg (s.2.2.1 5) (4 * nn) v.1 = u.1 := by
    rw [u2]
    refine dg_cong _ v.1 (fun i hi => ?_)
    have := (n3' (i / 4) (by omega)).2 (i % 4) (by omega)
    rwa [show 4 * (i / 4) + i % 4 = i by omega] at this
  rw [x4, u1, c3, q3]
  simp only [Option.bind_some]
  obtain ⟨z, z1, z2⟩ := digM (N := 5 * nk) (w := t.2.2 1) u.1 (by omega) k2 rfl
  have x5 : s.1 8 * 5 = nI (5 * nk) := by rw [k1, Nat.mul_comm]; exact pk_mul nk 5
  have c5 : sp_X2_digested 30 u.1 (nI (5 * nk)) (s.2.2.1 6) = some (dg (s.2.2.1 6) (5 * nk) u.1) := digC u.1 (by omega) (by omega)
  have q5 : dg (s.2.2.1 6) (5 * nk) u.1 = z.1 := by
    rw [z2]
    refine dg_cong _ u.1 (fun i hi => ?_)
    have := (k3 (i / 5) (by omega)).2 (i % 5) (by omega)
    rwa [show 5 * (i / 5) + i % 5 = i by omega] at this
  rw [x5, z1, c5, q5]
  simp only [Option.bind_some]
  rw [hF.1, hF.2]
  refine stp rfl rfl rfl hT hK ?_ hF hX
  refine ⟨?_, hC.2.1, hC.2.2⟩
  show r.2.2 = t.2.2 6 0
  rw [e4]; exact hC.1
