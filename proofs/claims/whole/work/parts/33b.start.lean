theorem E_start {s : State} {args : Array Value} (hts0 : ∀ w ∈ lw_tbl, w.before args s = true) : ∃ E : wE, wK E s := by
  have hts : ∀ w ∈ TBL, w.before args s = true := fun w hw => hts0 w (List.mem_filter.mp hw).1
  obtain ⟨c0, i0, k0⟩ := u_known (C := RX1) (T := TX1) (N := 9) (n := 9) hts inT_X1 (hts _ w_1_138)
  obtain ⟨c1, i1, k1⟩ := u_known (C := RX3) (T := TX3) (N := 5) (n := 5) hts inT_X3 (hts _ w_1_32)
  obtain ⟨c2, i2, k2⟩ := u_known (C := RX5) (T := TX5) (N := 6) (n := 6) hts inT_X5 (hts _ w_1_111)
  obtain ⟨c3, i3, k3⟩ := u_known (C := RX6) (T := TX6) (N := 11) (n := 11) hts inT_X6 (hts _ w_1_26)
  obtain ⟨c4, i4, k4⟩ := u_known (C := RX7) (T := TX7) (N := 15) (n := 15) hts inT_X7 (hts _ w_1_18)
  obtain ⟨c5, i5, k5⟩ := u_known (C := RX8) (T := TX8) (N := 16) (n := 16) hts inT_X8 (hts _ w_4_63)
  obtain ⟨cI, kI, pI, fI, gI, hI⟩ := Cond.arrayClass_spec (type := .int) (hts _ w_1_60)
  obtain ⟨cZ, kZ, pZ, fZ, gZ, hZ⟩ := Cond.arrayClass_spec (type := .boolean) (hts _ w_4_117)
  obtain ⟨pS, cS, kS, fS, -, gS, hS, nS⟩ := Cond.arrayOver_spec (n := "LevelGone$Site") (hts0 _ (List.mem_append_right _ (tin1 (List.mem_of_getElem? (i := 61) (by decide +kernel)))))
  obtain ⟨pT, cT, kT, fT, -, gT, hT, nT⟩ := Cond.arrayOver_spec (n := "LevelGone$Town") (hts0 _ (List.mem_append_right _ (tin1 (List.mem_of_getElem? (i := 109) (by decide +kernel)))))
  refine ⟨((fun k => match k with | 0 => c0 | 1 => c1 | 2 => c2 | 3 => c3 | 4 => c4 | _ => c5, fun k => match k with | 0 => i0 | 1 => i1 | 2 => i2 | 3 => i3 | 4 => i4 | _ => i5), cI, cZ, cS, cT), ⟨fun k q hq => ?_, fun k q hq => ?_⟩⟩
  · match k, hq with
    | 0, hq => cases hq; exact k0
    | 1, hq => cases hq; exact k1
    | 2, hq => cases hq; exact k2
    | 3, hq => cases hq; exact k3
    | 4, hq => cases hq; exact k4
    | 5, hq => cases hq; exact k5
    | k + 6, hq => simp [vwCl] at hq
  · match k, hq with
    | 0, hq => cases hq; exact ⟨fun n z => ⟨fun k h => (by cases h), kI, gI, pI, hI⟩, fI⟩
    | 1, hq => cases hq; exact ⟨fun n z => ⟨fun k h => (by cases h), kZ, gZ, pZ, hZ⟩, fZ⟩
    | 2, hq => cases hq; exact ⟨fun n z => ⟨fun k h => (by cases h), kS, gS, pS, hS⟩, kS, pS, gS, hS, fS, nS⟩
    | 3, hq => cases hq; exact ⟨fun n z => ⟨fun k h => (by cases h), kT, gT, pT, hT⟩, kT, pT, gT, hT, fT, nT⟩
    | k + 4, hq => simp [wTy] at hq
def tmJS : Nat → Term := fun i => ([.string "LevelGone$Text" 35, .string "LevelGone$Text" 58, .string "LevelGone$Text" 63, .string "LevelGone$Text" 78, .string "LevelGone$Text" 80] : List Term).getD i .null
theorem all5 {P : Nat → Prop} (h0 : P 0) (h1 : P 1) (h2 : P 2) (h3 : P 3) (h4 : P 4) : ∀ i : Nat, i < nJS → P i := by
  intro i hi
  match i, hi with
  | 0, _ => exact h0
  | 1, _ => exact h1
  | 2, _ => exact h2
  | 3, _ => exact h3
  | 4, _ => exact h4
set_option maxRecDepth 100000 in
theorem SF_start {s : State} {b : Nat} (htw : ∀ w ∈ tables_1, w.before #[Value.ref b] s = true) (hgv : (Jvm.Cond.and given_1 narrow_1).before #[Value.ref b] s = true) : ∃ Z : sE, SF Z (fun q : Nat => s.heap.size ≤ q) s s.heap := by
  have hs := flat_of_before _ hgv
  have hA : ∀ a : Nat, a < s.heap.size → ¬ (fun q : Nat => s.heap.size ≤ q) a := fun a h => Nat.not_le.mpr h
  obtain ⟨adK, adV, h1, h2⟩ := vk_Sof (args := #[Value.ref b]) (s := s) (N := nJS) (tm := tmJS) (len := lenJS) (byt := bytJS) (A := fun q : Nat => s.heap.size ≤ q) (all5 (by decide) (by decide) (by decide) (by decide) (by decide))
    (all5 (hs _ (by decide +kernel)) (hs _ (by decide +kernel)) (hs _ (by decide +kernel)) (hs _ (by decide +kernel)) (hs _ (by decide +kernel)))
    (all5 (hs _ (by decide +kernel)) (hs _ (by decide +kernel)) (hs _ (by decide +kernel)) (hs _ (by decide +kernel)) (hs _ (by decide +kernel)))
    (all5 (hs _ (by decide +kernel)) (hs _ (by decide +kernel)) (hs _ (by decide +kernel)) (hs _ (by decide +kernel)) (hs _ (by decide +kernel)))
    (all5 (hs _ (by decide +kernel)) (hs _ (by decide +kernel)) (hs _ (by decide +kernel)) (hs _ (by decide +kernel)) (hs _ (by decide +kernel)))
    (all5 (P := fun i => ∀ j : Nat, j < lenJS.getD i 0 → (Cond.eq (.elem (.field (tmJS i) "java/lang/String" "value" "[B") (.int (Int32.ofNat j))) (.int ((bytJS.getD i []).getD j 0))).before #[Value.ref b] s = true)
      (by intro j hj; match j, hj with
            | 0, _ => exact hs _ (by decide +kernel)
            | 1, _ => exact hs _ (by decide +kernel)
            | 2, _ => exact hs _ (by decide +kernel)
            | 3, _ => exact hs _ (by decide +kernel)
            | k + 4, h => exact absurd (show k + 4 < 4 from h) (by omega))
      (by intro j hj; match j, hj with
            | 0, _ => exact hs _ (by decide +kernel)
            | 1, _ => exact hs _ (by decide +kernel)
            | 2, _ => exact hs _ (by decide +kernel)
            | 3, _ => exact hs _ (by decide +kernel)
            | 4, _ => exact hs _ (by decide +kernel)
            | k + 5, h => exact absurd (show k + 5 < 5 from h) (by omega))
      (by intro j hj; match j, hj with
            | 0, _ => exact hs _ (by decide +kernel)
            | 1, _ => exact hs _ (by decide +kernel)
            | 2, _ => exact hs _ (by decide +kernel)
            | 3, _ => exact hs _ (by decide +kernel)
            | 4, _ => exact hs _ (by decide +kernel)
            | k + 5, h => exact absurd (show k + 5 < 5 from h) (by omega))
      (by intro j hj; match j, hj with
            | 0, _ => exact hs _ (by decide +kernel)
            | 1, _ => exact hs _ (by decide +kernel)
            | 2, _ => exact hs _ (by decide +kernel)
            | 3, _ => exact hs _ (by decide +kernel)
            | 4, _ => exact hs _ (by decide +kernel)
            | 5, _ => exact hs _ (by decide +kernel)
            | k + 6, h => exact absurd (show k + 6 < 6 from h) (by omega))
      (by intro j hj; match j, hj with
            | 0, _ => exact hs _ (by decide +kernel)
            | 1, _ => exact hs _ (by decide +kernel)
            | 2, _ => exact hs _ (by decide +kernel)
            | 3, _ => exact hs _ (by decide +kernel)
            | 4, _ => exact hs _ (by decide +kernel)
            | k + 5, h => exact absurd (show k + 5 < 5 from h) (by omega)))
    (by
      intro i j hi hj hne
      match i, hi, j, hj with
      | 0, _, 0, _ => exact absurd rfl hne
      | 0, _, 1, _ => exact Or.inl (hs _ (by decide +kernel))
      | 0, _, 2, _ => exact Or.inl (hs _ (by decide +kernel))
      | 0, _, 3, _ => exact Or.inl (hs _ (by decide +kernel))
      | 0, _, 4, _ => exact Or.inl (hs _ (by decide +kernel))
      | 1, _, 0, _ => exact Or.inr (hs _ (by decide +kernel))
      | 1, _, 1, _ => exact absurd rfl hne
      | 1, _, 2, _ => exact Or.inl (hs _ (by decide +kernel))
      | 1, _, 3, _ => exact Or.inl (hs _ (by decide +kernel))
      | 1, _, 4, _ => exact Or.inl (hs _ (by decide +kernel))
      | 2, _, 0, _ => exact Or.inr (hs _ (by decide +kernel))
      | 2, _, 1, _ => exact Or.inr (hs _ (by decide +kernel))
      | 2, _, 2, _ => exact absurd rfl hne
      | 2, _, 3, _ => exact Or.inl (hs _ (by decide +kernel))
      | 2, _, 4, _ => exact Or.inl (hs _ (by decide +kernel))
      | 3, _, 0, _ => exact Or.inr (hs _ (by decide +kernel))
      | 3, _, 1, _ => exact Or.inr (hs _ (by decide +kernel))
      | 3, _, 2, _ => exact Or.inr (hs _ (by decide +kernel))
      | 3, _, 3, _ => exact absurd rfl hne
      | 3, _, 4, _ => exact Or.inl (hs _ (by decide +kernel))
      | 4, _, 0, _ => exact Or.inr (hs _ (by decide +kernel))
      | 4, _, 1, _ => exact Or.inr (hs _ (by decide +kernel))
      | 4, _, 2, _ => exact Or.inr (hs _ (by decide +kernel))
      | 4, _, 3, _ => exact Or.inr (hs _ (by decide +kernel))
      | 4, _, 4, _ => exact absurd rfl hne
      | k + 5, h, _, _ => exact absurd (show k + 5 < 5 from h) (by omega)
      | _, _, k + 5, h => exact absurd (show k + 5 < 5 from h) (by omega)
      ) hA
  refine ⟨(adK, adV), h1, all5 (vk_R.of (htw _ (List.mem_append_right _ (List.mem_append_left _ (List.mem_of_getElem? (i := 74) (by decide +kernel))))) (h2 0 (by decide))) (vk_R.of (htw _ (List.mem_append_right _ (List.mem_append_left _ (List.mem_of_getElem? (i := 144) (by decide +kernel))))) (h2 1 (by decide))) (vk_R.of (htw _ (List.mem_append_right _ (List.mem_append_left _ (List.mem_of_getElem? (i := 150) (by decide +kernel))))) (h2 2 (by decide))) (vk_R.of (htw _ (List.mem_append_right _ (List.mem_append_left _ (List.mem_of_getElem? (i := 182) (by decide +kernel))))) (h2 3 (by decide))) (vk_R.of (htw _ (List.mem_append_right _ (List.mem_append_left _ (List.mem_of_getElem? (i := 183) (by decide +kernel))))) (h2 4 (by decide))), ?_, ?_⟩
  · exact va_Zof (htw _ (List.mem_append_right _ (List.mem_append_left _ (List.mem_of_getElem? (i := 88) (by decide +kernel))))) (htw _ (List.mem_append_left _ (List.mem_of_getElem? (i := 8) (by decide +kernel)))) (va_eqi (hs _ (by decide +kernel))) hA
  · exact va_Zqof (htw _ (List.mem_append_right _ (List.mem_append_left _ (List.mem_of_getElem? (i := 104) (by decide +kernel))))) (htw _ (List.mem_append_left _ (List.mem_of_getElem? (i := 10) (by decide +kernel)))) (hs _ (by decide +kernel)) hA
def s_init (u : (Nat → Nat) × (Nat → Nat → Nat)) : CSt := (fun _ => 0, fun j => if j = 1 then 1 else 0, fun _ _ => 0, fun _ _ => 0, fun _ _ _ => 0, false, u.2)
def t_init : MSt := (fun _ => 0, fun j => if j = 1 then 1 else 0, fun _ _ => 0)
def adOf (q : Nat) (u : (Nat → Nat) × (Nat → Nat → Nat)) : Nat → Nat := fun j => match j with | 0 => q | k + 1 => u.1 k
set_option maxHeartbeats 8000000 in
set_option maxRecDepth 100000 in
theorem start_of {REL : CSt → MSt → Prop} (hst : STEPS REL) (hinit : ∀ u, REL (s_init u) t_init) {p : Program} {e : Env} {s : State} {m : MethodId} {below : List Frame} {meth : Method} {c : Code} (l : Launch) {b L : Nat} {xs : Nat → Int32} (hL : L ≤ 384) (C0 : lw_At p s m meth c b L xs) : W p l e room_1 s m #[Value.ref b] below meth c s.heap [] 0 0 (lw_Z below #[Value.ref b] s) (entryFrame m ([Value.ref b] : List Value).toArray 4) := by
  obtain ⟨hx, hb, hr, hml, hown, hts0, hX0, hbl, hlocks, hgv⟩ := id C0
  have hts : ∀ w ∈ TBL, w.before #[Value.ref b] s = true := fun w hw => hts0 w (List.mem_filter.mp hw).1
  have hX : CX p s m #[Value.ref b] meth c code 4 ret RL := ⟨hx, hb, hr, hml, hts, hown, hlocks, wN.of (fun w hw => hts0 w (List.mem_append_right _ hw))⟩
  have hA : ∀ q : Nat, s.heap.size ≤ q → (fun q : Nat => s.heap.size ≤ q) q := fun _ h => h
  obtain ⟨E, hK⟩ := E_start hts0
  obtain ⟨Z, hF⟩ := SF_start (fun w hw => hts0 w (List.mem_append_right _ hw)) hgv
  have hS : va_S (fun q : Nat => s.heap.size ≤ q) s.heap s.heap [] := va_S.rf
  have hP : wP E [] s.heap := fun k q h => by simp at h
  have hD : va_D (fun q : Nat => s.heap.size ≤ q) [] := ⟨fun i j p q h => by simp at h, fun k q h => by simp at h⟩
  have hl := lv_entry ([Value.ref b]) (n := 4) (Nat.le_of_ble_eq_true rfl)
  rw [lg_entry_eq]
  generalize (lg_sl ([Value.ref b]) ++ List.replicate (4 - (lg_sl ([Value.ref b])).length) Slot.unset).toArray = ls at hl ⊢
  have hl : lv_has ls 4 [(0, .ref b)] := hl
  refine va_new (D := E.1) (ci := 4) (fs := [.null, .null, .null, .int 0, .null, .null, .null, .null, .null, .null, .long 0, .long 0, .int 0, .int 0, .int 0]) (C := RX7) (T := TX7) (N := 15) hx hb hts inT_X7 tyX7 tyX7_ok hown (hts _ w_1_17) (hts _ w_1_18) (hts _ w_1_1) hK hP hD hS hA rfl df_X7 (Nat.le_of_ble_eq_true rfl) (Nat.le_of_ble_eq_true rfl) dL_law_0 (fun q7 H hP hD hS => W.csk 1 15 rfl rfl (W.pc 3 rfl ?_))
  have hP : wP E [(q7, .inr (4, [.null, .null, .null, .int 0, .null, .null, .null, .null, .null, .null, .long 0, .long 0, .int 0, .int 0, .int 0]))] H := hP
  have hD : va_D (fun q : Nat => s.heap.size ≤ q) [(q7, .inr (4, [.null, .null, .null, .int 0, .null, .null, .null, .null, .null, .null, .long 0, .long 0, .int 0, .int 0, .int 0]))] := hD
  refine lv_dup hx hb dL_law_3 rfl (W.pc 4 rfl ?_)
  refine kInit [0] [] hX (c_X7_init l E q7) B_X7_init w_1_19 hK hP hD hS hA (by decide) rfl (wr := []) rfl (by decide) (by decide) hl.1 (Nat.le_of_ble_eq_true rfl) ⟨Nat.le_of_ble_eq_true rfl, Nat.le_of_ble_eq_true rfl⟩ ⟨Nat.le_of_ble_eq_true rfl, Nat.le_of_ble_eq_true rfl⟩ dL_law_4 (fun u H locs hP hD hS => W.csk 190 3391 rfl rfl (W.pc 7 rfl ?_))
  have hP : wP E (CW E (adOf q7 u) (s_init u)) H := hP
  have hD : va_D (fun q : Nat => s.heap.size ≤ q) (CW E (adOf q7 u) (s_init u)) := hD
  refine lv_astore_n (lv' := [(1, .ref q7), (0, .ref b)]) hx hb dL_law_7 rfl hl (by decide) rfl (fun ls hl => W.pc 8 rfl ?_)
  refine va_new (D := E.1) (ci := 5) (fs := [.null, .int 0, .null, .null, .null, .null, .null, .null, .long 0, .long 0, .null, .null, .int 0, .int 0, .int 0, .int 0]) (C := RX8) (T := TX8) (N := 16) hx hb hts inT_X8 tyX8 tyX8_ok hown (hts _ w_4_62) (hts _ w_4_63) (hts _ w_1_6) hK hP hD hS hA rfl df_X8 (Nat.le_of_ble_eq_true rfl) (Nat.le_of_ble_eq_true rfl) dL_law_8 (fun q8 H hP hD hS => W.csk 191 3407 rfl rfl (W.pc 11 rfl ?_))
  refine lv_dup hx hb dL_law_11 rfl (W.pc 12 rfl ?_)
  have hPa : wP E (CW E (adOf q7 u) (s_init u)) H := hP.left_
  have hPb : wP E [(q8, .inr (5, [.null, .int 0, .null, .null, .null, .null, .null, .null, .long 0, .long 0, .null, .null, .int 0, .int 0, .int 0, .int 0]))] H := hP.right_
  refine kInitR hX (c_X8_init l E q8) B_X8_init w_4_64 hK hPa hPb hD hS hA hl.1 (Nat.le_of_ble_eq_true rfl) ⟨Nat.le_of_ble_eq_true rfl, Nat.le_of_ble_eq_true rfl⟩ ⟨Nat.le_of_ble_eq_true rfl, Nat.le_of_ble_eq_true rfl⟩ dL_law_12 (fun u8 H locs hPa hPb hD hS => W.csk 200 6980 rfl rfl (W.pc 15 rfl ?_))
  have hPb : wP E (MWd E (adOf q8 u8) t_init) H := hPb
  have hD : va_D (fun q : Nat => s.heap.size ≤ q) (CW E (adOf q7 u) (s_init u) ++ MWd E (adOf q8 u8) t_init) := hD
  refine lv_astore_n (lv' := [(2, .ref q8), (1, .ref q7), (0, .ref b)]) hx hb dL_law_15 rfl hl (by decide) rfl (fun ls hl => W.pc 16 rfl ?_)
  refine lv_iconst (v := 0) hx hb dL_law_16 (by decide) (W.pc 17 rfl ?_)
  refine lv_istore_n (lv' := [(3, .int 0), (2, .ref q8), (1, .ref q7), (0, .ref b)]) hx hb dL_law_17 rfl hl (by decide) rfl (fun ls hl => W.pc 18 rfl ?_)
  exact law_loop (ad := adOf q7 u) (md := adOf q8 u8) hst hL C0 hK hF (L + 1) 0 0 (s_init u) t_init (by omega) (by omega) nI_0.symm (hinit u) _ _ _ hPa hPb hD hS (lv_sub hl [3, 2, 1, 0] rfl)
