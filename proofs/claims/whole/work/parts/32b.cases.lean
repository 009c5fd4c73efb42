set_option maxHeartbeats 4000000 in
set_option maxRecDepth 100000 in
theorem law_19 {p : Program} {l : Launch} {e : Env} {s : State} {m : MethodId} {below : List Frame} {meth : Method} {c : Code} {b L : Nat} {xs : Nat → Int32} {REL : CSt → MSt → Prop} (hst : ∀ (p1 : Int32) (s : CSt) (t : MSt), REL s t → ∃ (r : Int32) (s1 : CSt) (t1 : MSt), S7_council p1 s = some (r, s1) ∧ S8_council p1 t = some (r, t1) ∧ REL s1 t1) (C0 : lw_At p s m meth c b L xs) {x3 : Int32} (hin : ∀ j : Nat, j < 6 → vp_in (x3 + nI j) L) {E : wE} {Z : sE} (hK : wK E s) (hF : SF Z (fun q : Nat => s.heap.size ≤ q) s s.heap) {ad md : Nat → Nat} {s0 : CSt} {t0 : MSt} (hR : REL s0 t0) (K : ∀ (s1 : CSt) (t1 : MSt), REL s1 t1 → ∀ (H : Heap) (locs : List Loc) (ls : Array Slot), wP E (CW E ad s1) H → wP E (MWd E md t1) H → va_D (fun q : Nat => s.heap.size ≤ q) (CW E ad s1 ++ MWd E md t1) → va_S (fun q : Nat => s.heap.size ≤ q) s.heap H locs → lv_has ls 4 [(0, .ref b), (1, .ref (ad 0)), (2, .ref (md 0)), (3, .int x3)] → W p l e room_1 s m #[Value.ref b] below meth c H locs 200 6980 (lw_Z below #[Value.ref b] s) (F0 m 1216 ls [])) : ∀ (H : Heap) (locs : List Loc) (ls : Array Slot), wP E (CW E ad s0) H → wP E (MWd E md t0) H → va_D (fun q : Nat => s.heap.size ≤ q) (CW E ad s0 ++ MWd E md t0) → va_S (fun q : Nat => s.heap.size ≤ q) s.heap H locs → lv_has ls 4 [(0, .ref b), (1, .ref (ad 0)), (2, .ref (md 0)), (3, .int x3)] → W p l e room_1 s m #[Value.ref b] below meth c H locs 200 6980 (lw_Z below #[Value.ref b] s) (F0 m 707 ls []) := by
  intro H locs ls hPa hPb hD hS hl
  obtain ⟨hx, hb, hr, hml, hown, hts, hX0, hbl, hlocks, hgv⟩ := C0
  have hA : ∀ q : Nat, s.heap.size ≤ q → (fun q : Nat => s.heap.size ≤ q) q := fun _ h => h
  have hbA : ¬ (fun q : Nat => s.heap.size ≤ q) b := Nat.not_le.mpr hbl
  have hX : CX p s m #[Value.ref b] meth c code 4 ret RL := ⟨hx, hb, hr, hml, fun w hw => hts w (List.mem_filter.mp hw).1, hown, hlocks, wN.of (fun w hw => hts w (List.mem_append_right _ hw))⟩
  obtain ⟨r, s1, t1, h7, h8, hR1⟩ := hst (xs (x3 + (1 : Int32)).toNatClampNeg) s0 t0 hR
  refine lv_aload_n hx hb dL_law_707 rfl (lv_at hl 1 rfl) (W.pc 708 rfl ?_)
  refine lv_aload_n hx hb dL_law_708 rfl (lv_at hl 0 rfl) (W.pc 709 rfl ?_)
  refine lv_iload_n hx hb dL_law_709 rfl (lv_at hl 3 rfl) (W.pc 710 rfl ?_)
  refine lv_iconst (v := (1 : Int32)) hx hb dL_law_710 (by decide) (W.pc 711 rfl ?_)
  refine lv_iadd hx hb dL_law_711 (W.pc 712 rfl ?_)
  refine va_sld hx hb hX0 hbl hbA hS (hin 1 (by decide)) dL_law_712 (W.pc 713 rfl ?_)
  refine kVl (st1 := [.int r]) hX (L7_council l E ad (xs (x3 + (1 : Int32)).toNatClampNeg) s0 r s1 h7) B_X7_council w_3_138 hK hPa hPb hD hS hA (q0 := 0) (ci := 4) rfl rfl rfl rfl hl.1 rfl (Nat.le_of_ble_eq_true rfl) ⟨Nat.le_of_ble_eq_true rfl, Nat.le_of_ble_eq_true rfl⟩ ⟨Nat.le_of_ble_eq_true rfl, Nat.le_of_ble_eq_true rfl⟩ dL_law_713 rfl (fun H locs hPa hPb hD hS => W.pc 716 rfl ?_)
  refine lv_aload_n hx hb dL_law_716 rfl (lv_at hl 2 rfl) (W.pc 717 rfl ?_)
  refine lv_aload_n hx hb dL_law_717 rfl (lv_at hl 0 rfl) (W.pc 718 rfl ?_)
  refine lv_iload_n hx hb dL_law_718 rfl (lv_at hl 3 rfl) (W.pc 719 rfl ?_)
  refine lv_iconst (v := (1 : Int32)) hx hb dL_law_719 (by decide) (W.pc 720 rfl ?_)
  refine lv_iadd hx hb dL_law_720 (W.pc 721 rfl ?_)
  refine va_sld hx hb hX0 hbl hbA hS (hin 1 (by decide)) dL_law_721 (W.pc 722 rfl ?_)
  refine kVr (st1 := [.int r, .int r]) hX (L8_council l E md (xs (x3 + (1 : Int32)).toNatClampNeg) t0 r t1 h8) B_X8_council w_5_103 hK hPa hPb hD hS hA (q0 := 0) (ci := 5) rfl rfl rfl rfl hl.1 rfl (Nat.le_of_ble_eq_true rfl) ⟨Nat.le_of_ble_eq_true rfl, Nat.le_of_ble_eq_true rfl⟩ ⟨Nat.le_of_ble_eq_true rfl, Nat.le_of_ble_eq_true rfl⟩ dL_law_722 rfl (fun H locs hPa hPb hD hS => W.pc 725 rfl ?_)
  refine lv_icmp_eq (tgt := 1216) hx hb dL_law_725 (by decide) (fun _ => ?_) (fun q => absurd rfl q)
  exact K s1 t1 hR1 _ _ _ hPa hPb hD hS hl
set_option maxHeartbeats 4000000 in
set_option maxRecDepth 100000 in
theorem law_20 {p : Program} {l : Launch} {e : Env} {s : State} {m : MethodId} {below : List Frame} {meth : Method} {c : Code} {b L : Nat} {xs : Nat → Int32} {REL : CSt → MSt → Prop} (hst : ∀ (p1 : Int32) (s : CSt) (t : MSt), REL s t → ∃ (r : Int32) (s1 : CSt) (t1 : MSt), S7_power p1 s = some (r, s1) ∧ S8_power p1 t = some (r, t1) ∧ REL s1 t1) (C0 : lw_At p s m meth c b L xs) {x3 : Int32} (hin : ∀ j : Nat, j < 6 → vp_in (x3 + nI j) L) {E : wE} {Z : sE} (hK : wK E s) (hF : SF Z (fun q : Nat => s.heap.size ≤ q) s s.heap) {ad md : Nat → Nat} {s0 : CSt} {t0 : MSt} (hR : REL s0 t0) (K : ∀ (s1 : CSt) (t1 : MSt), REL s1 t1 → ∀ (H : Heap) (locs : List Loc) (ls : Array Slot), wP E (CW E ad s1) H → wP E (MWd E md t1) H → va_D (fun q : Nat => s.heap.size ≤ q) (CW E ad s1 ++ MWd E md t1) → va_S (fun q : Nat => s.heap.size ≤ q) s.heap H locs → lv_has ls 4 [(0, .ref b), (1, .ref (ad 0)), (2, .ref (md 0)), (3, .int x3)] → W p l e room_1 s m #[Value.ref b] below meth c H locs 200 6980 (lw_Z below #[Value.ref b] s) (F0 m 1216 ls [])) : ∀ (H : Heap) (locs : List Loc) (ls : Array Slot), wP E (CW E ad s0) H → wP E (MWd E md t0) H → va_D (fun q : Nat => s.heap.size ≤ q) (CW E ad s0 ++ MWd E md t0) → va_S (fun q : Nat => s.heap.size ≤ q) s.heap H locs → lv_has ls 4 [(0, .ref b), (1, .ref (ad 0)), (2, .ref (md 0)), (3, .int x3)] → W p l e room_1 s m #[Value.ref b] below meth c H locs 200 6980 (lw_Z below #[Value.ref b] s) (F0 m 730 ls []) := by
  intro H locs ls hPa hPb hD hS hl
  obtain ⟨hx, hb, hr, hml, hown, hts, hX0, hbl, hlocks, hgv⟩ := C0
  have hA : ∀ q : Nat, s.heap.size ≤ q → (fun q : Nat => s.heap.size ≤ q) q := fun _ h => h
  have hbA : ¬ (fun q : Nat => s.heap.size ≤ q) b := Nat.not_le.mpr hbl
  have hX : CX p s m #[Value.ref b] meth c code 4 ret RL := ⟨hx, hb, hr, hml, fun w hw => hts w (List.mem_filter.mp hw).1, hown, hlocks, wN.of (fun w hw => hts w (List.mem_append_right _ hw))⟩
  obtain ⟨r, s1, t1, h7, h8, hR1⟩ := hst (xs (x3 + (1 : Int32)).toNatClampNeg) s0 t0 hR
  refine lv_aload_n hx hb dL_law_730 rfl (lv_at hl 1 rfl) (W.pc 731 rfl ?_)
  refine lv_aload_n hx hb dL_law_731 rfl (lv_at hl 0 rfl) (W.pc 732 rfl ?_)
  refine lv_iload_n hx hb dL_law_732 rfl (lv_at hl 3 rfl) (W.pc 733 rfl ?_)
  refine lv_iconst (v := (1 : Int32)) hx hb dL_law_733 (by decide) (W.pc 734 rfl ?_)
  refine lv_iadd hx hb dL_law_734 (W.pc 735 rfl ?_)
  refine va_sld hx hb hX0 hbl hbA hS (hin 1 (by decide)) dL_law_735 (W.pc 736 rfl ?_)
  refine kVl (st1 := [.int r]) hX (L7_power l E ad (xs (x3 + (1 : Int32)).toNatClampNeg) s0 r s1 h7) B_X7_power w_3_156 hK hPa hPb hD hS hA (q0 := 0) (ci := 4) rfl rfl rfl rfl hl.1 rfl (Nat.le_of_ble_eq_true rfl) ⟨Nat.le_of_ble_eq_true rfl, Nat.le_of_ble_eq_true rfl⟩ ⟨Nat.le_of_ble_eq_true rfl, Nat.le_of_ble_eq_true rfl⟩ dL_law_736 rfl (fun H locs hPa hPb hD hS => W.pc 739 rfl ?_)
  refine lv_aload_n hx hb dL_law_739 rfl (lv_at hl 2 rfl) (W.pc 740 rfl ?_)
  refine lv_aload_n hx hb dL_law_740 rfl (lv_at hl 0 rfl) (W.pc 741 rfl ?_)
  refine lv_iload_n hx hb dL_law_741 rfl (lv_at hl 3 rfl) (W.pc 742 rfl ?_)
  refine lv_iconst (v := (1 : Int32)) hx hb dL_law_742 (by decide) (W.pc 743 rfl ?_)
  refine lv_iadd hx hb dL_law_743 (W.pc 744 rfl ?_)
  refine va_sld hx hb hX0 hbl hbA hS (hin 1 (by decide)) dL_law_744 (W.pc 745 rfl ?_)
  refine kVr (st1 := [.int r, .int r]) hX (L8_power l E md (xs (x3 + (1 : Int32)).toNatClampNeg) t0 r t1 h8) B_X8_power w_5_118 hK hPa hPb hD hS hA (q0 := 0) (ci := 5) rfl rfl rfl rfl hl.1 rfl (Nat.le_of_ble_eq_true rfl) ⟨Nat.le_of_ble_eq_true rfl, Nat.le_of_ble_eq_true rfl⟩ ⟨Nat.le_of_ble_eq_true rfl, Nat.le_of_ble_eq_true rfl⟩ dL_law_745 rfl (fun H locs hPa hPb hD hS => W.pc 748 rfl ?_)
  refine lv_icmp_eq (tgt := 1216) hx hb dL_law_748 (by decide) (fun _ => ?_) (fun q => absurd rfl q)
  exact K s1 t1 hR1 _ _ _ hPa hPb hD hS hl
set_option maxHeartbeats 4000000 in
set_option maxRecDepth 100000 in
theorem law_21 {p : Program} {l : Launch} {e : Env} {s : State} {m : MethodId} {below : List Frame} {meth : Method} {c : Code} {b L : Nat} {xs : Nat → Int32} {REL : CSt → MSt → Prop} (hst : ∀ (p1 p2 : Int32) (s : CSt) (t : MSt), REL s t → ∃ (r : Int32) (s1 : CSt) (t1 : MSt), S7_built p1 p2 s = some (r, s1) ∧ S8_built p1 p2 t = some (r, t1) ∧ REL s1 t1) (C0 : lw_At p s m meth c b L xs) {x3 : Int32} (hin : ∀ j : Nat, j < 6 → vp_in (x3 + nI j) L) {E : wE} {Z : sE} (hK : wK E s) (hF : SF Z (fun q : Nat => s.heap.size ≤ q) s s.heap) {ad md : Nat → Nat} {s0 : CSt} {t0 : MSt} (hR : REL s0 t0) (K : ∀ (s1 : CSt) (t1 : MSt), REL s1 t1 → ∀ (H : Heap) (locs : List Loc) (ls : Array Slot), wP E (CW E ad s1) H → wP E (MWd E md t1) H → va_D (fun q : Nat => s.heap.size ≤ q) (CW E ad s1 ++ MWd E md t1) → va_S (fun q : Nat => s.heap.size ≤ q) s.heap H locs → lv_has ls 4 [(0, .ref b), (1, .ref (ad 0)), (2, .ref (md 0)), (3, .int x3)] → W p l e room_1 s m #[Value.ref b] below meth c H locs 200 6980 (lw_Z below #[Value.ref b] s) (F0 m 1216 ls [])) : ∀ (H : Heap) (locs : List Loc) (ls : Array Slot), wP E (CW E ad s0) H → wP E (MWd E md t0) H → va_D (fun q : Nat => s.heap.size ≤ q) (CW E ad s0 ++ MWd E md t0) → va_S (fun q : Nat => s.heap.size ≤ q) s.heap H locs → lv_has ls 4 [(0, .ref b), (1, .ref (ad 0)), (2, .ref (md 0)), (3, .int x3)] → W p l e room_1 s m #[Value.ref b] below meth c H locs 200 6980 (lw_Z below #[Value.ref b] s) (F0 m 753 ls []) := by
  intro H locs ls hPa hPb hD hS hl
  obtain ⟨hx, hb, hr, hml, hown, hts, hX0, hbl, hlocks, hgv⟩ := C0
  have hA : ∀ q : Nat, s.heap.size ≤ q → (fun q : Nat => s.heap.size ≤ q) q := fun _ h => h
  have hbA : ¬ (fun q : Nat => s.heap.size ≤ q) b := Nat.not_le.mpr hbl
  have hX : CX p s m #[Value.ref b] meth c code 4 ret RL := ⟨hx, hb, hr, hml, fun w hw => hts w (List.mem_filter.mp hw).1, hown, hlocks, wN.of (fun w hw => hts w (List.mem_append_right _ hw))⟩
  obtain ⟨r, s1, t1, h7, h8, hR1⟩ := hst (xs (x3 + (1 : Int32)).toNatClampNeg) (xs (x3 + (2 : Int32)).toNatClampNeg) s0 t0 hR
  refine lv_aload_n hx hb dL_law_753 rfl (lv_at hl 1 rfl) (W.pc 754 rfl ?_)
  refine lv_aload_n hx hb dL_law_754 rfl (lv_at hl 0 rfl) (W.pc 755 rfl ?_)
  refine lv_iload_n hx hb dL_law_755 rfl (lv_at hl 3 rfl) (W.pc 756 rfl ?_)
  refine lv_iconst (v := (1 : Int32)) hx hb dL_law_756 (by decide) (W.pc 757 rfl ?_)
  refine lv_iadd hx hb dL_law_757 (W.pc 758 rfl ?_)
  refine va_sld hx hb hX0 hbl hbA hS (hin 1 (by decide)) dL_law_758 (W.pc 759 rfl ?_)
  refine lv_aload_n hx hb dL_law_759 rfl (lv_at hl 0 rfl) (W.pc 760 rfl ?_)
  refine lv_iload_n hx hb dL_law_760 rfl (lv_at hl 3 rfl) (W.pc 761 rfl ?_)
  refine lv_iconst (v := (2 : Int32)) hx hb dL_law_761 (by decide) (W.pc 762 rfl ?_)
  refine lv_iadd hx hb dL_law_762 (W.pc 763 rfl ?_)
  refine va_sld hx hb hX0 hbl hbA hS (hin 2 (by decide)) dL_law_763 (W.pc 764 rfl ?_)
  refine kVl (st1 := [.int r]) hX (L7_built l E ad (xs (x3 + (1 : Int32)).toNatClampNeg) (xs (x3 + (2 : Int32)).toNatClampNeg) s0 r s1 h7) B_X7_built w_3_160 hK hPa hPb hD hS hA (q0 := 0) (ci := 4) rfl rfl rfl rfl hl.1 rfl (Nat.le_of_ble_eq_true rfl) ⟨Nat.le_of_ble_eq_true rfl, Nat.le_of_ble_eq_true rfl⟩ ⟨Nat.le_of_ble_eq_true rfl, Nat.le_of_ble_eq_true rfl⟩ dL_law_764 rfl (fun H locs hPa hPb hD hS => W.pc 767 rfl ?_)
  refine lv_aload_n hx hb dL_law_767 rfl (lv_at hl 2 rfl) (W.pc 768 rfl ?_)
  refine lv_aload_n hx hb dL_law_768 rfl (lv_at hl 0 rfl) (W.pc 769 rfl ?_)
  refine lv_iload_n hx hb dL_law_769 rfl (lv_at hl 3 rfl) (W.pc 770 rfl ?_)
  refine lv_iconst (v := (1 : Int32)) hx hb dL_law_770 (by decide) (W.pc 771 rfl ?_)
  refine lv_iadd hx hb dL_law_771 (W.pc 772 rfl ?_)
  refine va_sld hx hb hX0 hbl hbA hS (hin 1 (by decide)) dL_law_772 (W.pc 773 rfl ?_)
  refine lv_aload_n hx hb dL_law_773 rfl (lv_at hl 0 rfl) (W.pc 774 rfl ?_)
  refine lv_iload_n hx hb dL_law_774 rfl (lv_at hl 3 rfl) (W.pc 775 rfl ?_)
  refine lv_iconst (v := (2 : Int32)) hx hb dL_law_775 (by decide) (W.pc 776 rfl ?_)
  refine lv_iadd hx hb dL_law_776 (W.pc 777 rfl ?_)
  refine va_sld hx hb hX0 hbl hbA hS (hin 2 (by decide)) dL_law_777 (W.pc 778 rfl ?_)
  refine kVr (st1 := [.int r, .int r]) hX (L8_built l E md (xs (x3 + (1 : Int32)).toNatClampNeg) (xs (x3 + (2 : Int32)).toNatClampNeg) t0 r t1 h8) B_X8_built w_5_122 hK hPa hPb hD hS hA (q0 := 0) (ci := 5) rfl rfl rfl rfl hl.1 rfl (Nat.le_of_ble_eq_true rfl) ⟨Nat.le_of_ble_eq_true rfl, Nat.le_of_ble_eq_true rfl⟩ ⟨Nat.le_of_ble_eq_true rfl, Nat.le_of_ble_eq_true rfl⟩ dL_law_778 rfl (fun H locs hPa hPb hD hS => W.pc 781 rfl ?_)
  refine lv_icmp_eq (tgt := 1216) hx hb dL_law_781 (by decide) (fun _ => ?_) (fun q => absurd rfl q)
  exact K s1 t1 hR1 _ _ _ hPa hPb hD hS hl
set_option maxHeartbeats 4000000 in
set_option maxRecDepth 100000 in
theorem law_22 {p : Program} {l : Launch} {e : Env} {s : State} {m : MethodId} {below : List Frame} {meth : Method} {c : Code} {b L : Nat} {xs : Nat → Int32} {REL : CSt → MSt → Prop} (hst : ∀ (p1 p2 p3 p4 : Int32) (s : CSt) (t : MSt), REL s t → ∃ (r : Int32) (s1 : CSt) (t1 : MSt), S7_note p1 p2 p3 p4 s = some (r, s1) ∧ S8_note p1 p2 p3 p4 t = some (r, t1) ∧ REL s1 t1) (C0 : lw_At p s m meth c b L xs) {x3 : Int32} (hin : ∀ j : Nat, j < 6 → vp_in (x3 + nI j) L) {E : wE} {Z : sE} (hK : wK E s) (hF : SF Z (fun q : Nat => s.heap.size ≤ q) s s.heap) {ad md : Nat → Nat} {s0 : CSt} {t0 : MSt} (hR : REL s0 t0) (K : ∀ (s1 : CSt) (t1 : MSt), REL s1 t1 → ∀ (H : Heap) (locs : List Loc) (ls : Array Slot), wP E (CW E ad s1) H → wP E (MWd E md t1) H → va_D (fun q : Nat => s.heap.size ≤ q) (CW E ad s1 ++ MWd E md t1) → va_S (fun q : Nat => s.heap.size ≤ q) s.heap H locs → lv_has ls 4 [(0, .ref b), (1, .ref (ad 0)), (2, .ref (md 0)), (3, .int x3)] → W p l e room_1 s m #[Value.ref b] below meth c H locs 200 6980 (lw_Z below #[Value.ref b] s) (F0 m 1216 ls [])) : ∀ (H : Heap) (locs : List Loc) (ls : Array Slot), wP E (CW E ad s0) H → wP E (MWd E md t0) H → va_D (fun q : Nat => s.heap.size ≤ q) (CW E ad s0 ++ MWd E md t0) → va_S (fun q : Nat => s.heap.size ≤ q) s.heap H locs → lv_has ls 4 [(0, .ref b), (1, .ref (ad 0)), (2, .ref (md 0)), (3, .int x3)] → W p l e room_1 s m #[Value.ref b] below meth c H locs 200 6980 (lw_Z below #[Value.ref b] s) (F0 m 786 ls []) := by
  intro H locs ls hPa hPb hD hS hl
  obtain ⟨hx, hb, hr, hml, hown, hts, hX0, hbl, hlocks, hgv⟩ := C0
  have hA : ∀ q : Nat, s.heap.size ≤ q → (fun q : Nat => s.heap.size ≤ q) q := fun _ h => h
  have hbA : ¬ (fun q : Nat => s.heap.size ≤ q) b := Nat.not_le.mpr hbl
  have hX : CX p s m #[Value.ref b] meth c code 4 ret RL := ⟨hx, hb, hr, hml, fun w hw => hts w (List.mem_filter.mp hw).1, hown, hlocks, wN.of (fun w hw => hts w (List.mem_append_right _ hw))⟩
  obtain ⟨r, s1, t1, h7, h8, hR1⟩ := hst (xs (x3 + (1 : Int32)).toNatClampNeg) (xs (x3 + (2 : Int32)).toNatClampNeg) (xs (x3 + (3 : Int32)).toNatClampNeg) (xs (x3 + (4 : Int32)).toNatClampNeg) s0 t0 hR
  refine lv_aload_n hx hb dL_law_786 rfl (lv_at hl 1 rfl) (W.pc 787 rfl ?_)
  refine lv_aload_n hx hb dL_law_787 rfl (lv_at hl 0 rfl) (W.pc 788 rfl ?_)
  refine lv_iload_n hx hb dL_law_788 rfl (lv_at hl 3 rfl) (W.pc 789 rfl ?_)
  refine lv_iconst (v := (1 : Int32)) hx hb dL_law_789 (by decide) (W.pc 790 rfl ?_)
  refine lv_iadd hx hb dL_law_790 (W.pc 791 rfl ?_)
  refine va_sld hx hb hX0 hbl hbA hS (hin 1 (by decide)) dL_law_791 (W.pc 792 rfl ?_)
  refine lv_aload_n hx hb dL_law_792 rfl (lv_at hl 0 rfl) (W.pc 793 rfl ?_)
  refine lv_iload_n hx hb dL_law_793 rfl (lv_at hl 3 rfl) (W.pc 794 rfl ?_)
  refine lv_iconst (v := (2 : Int32)) hx hb dL_law_794 (by decide) (W.pc 795 rfl ?_)
  refine lv_iadd hx hb dL_law_795 (W.pc 796 rfl ?_)
  refine va_sld hx hb hX0 hbl hbA hS (hin 2 (by decide)) dL_law_796 (W.pc 797 rfl ?_)
  refine lv_aload_n hx hb dL_law_797 rfl (lv_at hl 0 rfl) (W.pc 798 rfl ?_)
  refine lv_iload_n hx hb dL_law_798 rfl (lv_at hl 3 rfl) (W.pc 799 rfl ?_)
  refine lv_iconst (v := (3 : Int32)) hx hb dL_law_799 (by decide) (W.pc 800 rfl ?_)
  refine lv_iadd hx hb dL_law_800 (W.pc 801 rfl ?_)
  refine va_sld hx hb hX0 hbl hbA hS (hin 3 (by decide)) dL_law_801 (W.pc 802 rfl ?_)
  refine lv_aload_n hx hb dL_law_802 rfl (lv_at hl 0 rfl) (W.pc 803 rfl ?_)
  refine lv_iload_n hx hb dL_law_803 rfl (lv_at hl 3 rfl) (W.pc 804 rfl ?_)
  refine lv_iconst (v := (4 : Int32)) hx hb dL_law_804 (by decide) (W.pc 805 rfl ?_)
  refine lv_iadd hx hb dL_law_805 (W.pc 806 rfl ?_)
  refine va_sld hx hb hX0 hbl hbA hS (hin 4 (by decide)) dL_law_806 (W.pc 807 rfl ?_)
  refine kVl (st1 := [.int r]) hX (L7_note l E ad (xs (x3 + (1 : Int32)).toNatClampNeg) (xs (x3 + (2 : Int32)).toNatClampNeg) (xs (x3 + (3 : Int32)).toNatClampNeg) (xs (x3 + (4 : Int32)).toNatClampNeg) s0 r s1 h7) B_X7_note w_3_165 hK hPa hPb hD hS hA (q0 := 0) (ci := 4) rfl rfl rfl rfl hl.1 rfl (Nat.le_of_ble_eq_true rfl) ⟨Nat.le_of_ble_eq_true rfl, Nat.le_of_ble_eq_true rfl⟩ ⟨Nat.le_of_ble_eq_true rfl, Nat.le_of_ble_eq_true rfl⟩ dL_law_807 rfl (fun H locs hPa hPb hD hS => W.pc 810 rfl ?_)
  refine lv_aload_n hx hb dL_law_810 rfl (lv_at hl 2 rfl) (W.pc 811 rfl ?_)
  refine lv_aload_n hx hb dL_law_811 rfl (lv_at hl 0 rfl) (W.pc 812 rfl ?_)
  refine lv_iload_n hx hb dL_law_812 rfl (lv_at hl 3 rfl) (W.pc 813 rfl ?_)
  refine lv_iconst (v := (1 : Int32)) hx hb dL_law_813 (by decide) (W.pc 814 rfl ?_)
  refine lv_iadd hx hb dL_law_814 (W.pc 815 rfl ?_)
  refine va_sld hx hb hX0 hbl hbA hS (hin 1 (by decide)) dL_law_815 (W.pc 816 rfl ?_)
  refine lv_aload_n hx hb dL_law_816 rfl (lv_at hl 0 rfl) (W.pc 817 rfl ?_)
  refine lv_iload_n hx hb dL_law_817 rfl (lv_at hl 3 rfl) (W.pc 818 rfl ?_)
  refine lv_iconst (v := (2 : Int32)) hx hb dL_law_818 (by decide) (W.pc 819 rfl ?_)
  refine lv_iadd hx hb dL_law_819 (W.pc 820 rfl ?_)
  refine va_sld hx hb hX0 hbl hbA hS (hin 2 (by decide)) dL_law_820 (W.pc 821 rfl ?_)
  refine lv_aload_n hx hb dL_law_821 rfl (lv_at hl 0 rfl) (W.pc 822 rfl ?_)
  refine lv_iload_n hx hb dL_law_822 rfl (lv_at hl 3 rfl) (W.pc 823 rfl ?_)
  refine lv_iconst (v := (3 : Int32)) hx hb dL_law_823 (by decide) (W.pc 824 rfl ?_)
  refine lv_iadd hx hb dL_law_824 (W.pc 825 rfl ?_)
  refine va_sld hx hb hX0 hbl hbA hS (hin 3 (by decide)) dL_law_825 (W.pc 826 rfl ?_)
  refine lv_aload_n hx hb dL_law_826 rfl (lv_at hl 0 rfl) (W.pc 827 rfl ?_)
  refine lv_iload_n hx hb dL_law_827 rfl (lv_at hl 3 rfl) (W.pc 828 rfl ?_)
  refine lv_iconst (v := (4 : Int32)) hx hb dL_law_828 (by decide) (W.pc 829 rfl ?_)
  refine lv_iadd hx hb dL_law_829 (W.pc 830 rfl ?_)
  refine va_sld hx hb hX0 hbl hbA hS (hin 4 (by decide)) dL_law_830 (W.pc 831 rfl ?_)
  refine kVr (st1 := [.int r, .int r]) hX (L8_note l E md (xs (x3 + (1 : Int32)).toNatClampNeg) (xs (x3 + (2 : Int32)).toNatClampNeg) (xs (x3 + (3 : Int32)).toNatClampNeg) (xs (x3 + (4 : Int32)).toNatClampNeg) t0 r t1 h8) B_X8_note w_5_126 hK hPa hPb hD hS hA (q0 := 0) (ci := 5) rfl rfl rfl rfl hl.1 rfl (Nat.le_of_ble_eq_true rfl) ⟨Nat.le_of_ble_eq_true rfl, Nat.le_of_ble_eq_true rfl⟩ ⟨Nat.le_of_ble_eq_true rfl, Nat.le_of_ble_eq_true rfl⟩ dL_law_831 rfl (fun H locs hPa hPb hD hS => W.pc 834 rfl ?_)
  refine lv_icmp_eq (tgt := 1216) hx hb dL_law_834 (by decide) (fun _ => ?_) (fun q => absurd rfl q)
  exact K s1 t1 hR1 _ _ _ hPa hPb hD hS hl
set_option maxHeartbeats 4000000 in
set_option maxRecDepth 100000 in
theorem law_23 {p : Program} {l : Launch} {e : Env} {s : State} {m : MethodId} {below : List Frame} {meth : Method} {c : Code} {b L : Nat} {xs : Nat → Int32} {REL : CSt → MSt → Prop} (hst : ∀ (p1 p2 p3 p4 p5 : Int32) (s : CSt) (t : MSt), REL s t → ∃ (r : Int32) (s1 : CSt) (t1 : MSt), S7_mark p1 p2 p3 p4 p5 s = some (r, s1) ∧ S8_mark p1 p2 p3 p4 p5 t = some (r, t1) ∧ REL s1 t1) (C0 : lw_At p s m meth c b L xs) {x3 : Int32} (hin : ∀ j : Nat, j < 6 → vp_in (x3 + nI j) L) {E : wE} {Z : sE} (hK : wK E s) (hF : SF Z (fun q : Nat => s.heap.size ≤ q) s s.heap) {ad md : Nat → Nat} {s0 : CSt} {t0 : MSt} (hR : REL s0 t0) (K : ∀ (s1 : CSt) (t1 : MSt), REL s1 t1 → ∀ (H : Heap) (locs : List Loc) (ls : Array Slot), wP E (CW E ad s1) H → wP E (MWd E md t1) H → va_D (fun q : Nat => s.heap.size ≤ q) (CW E ad s1 ++ MWd E md t1) → va_S (fun q : Nat => s.heap.size ≤ q) s.heap H locs → lv_has ls 4 [(0, .ref b), (1, .ref (ad 0)), (2, .ref (md 0)), (3, .int x3)] → W p l e room_1 s m #[Value.ref b] below meth c H locs 200 6980 (lw_Z below #[Value.ref b] s) (F0 m 1216 ls [])) : ∀ (H : Heap) (locs : List Loc) (ls : Array Slot), wP E (CW E ad s0) H → wP E (MWd E md t0) H → va_D (fun q : Nat => s.heap.size ≤ q) (CW E ad s0 ++ MWd E md t0) → va_S (fun q : Nat => s.heap.size ≤ q) s.heap H locs → lv_has ls 4 [(0, .ref b), (1, .ref (ad 0)), (2, .ref (md 0)), (3, .int x3)] → W p l e room_1 s m #[Value.ref b] below meth c H locs 200 6980 (lw_Z below #[Value.ref b] s) (F0 m 839 ls []) := by
  intro H locs ls hPa hPb hD hS hl
  obtain ⟨hx, hb, hr, hml, hown, hts, hX0, hbl, hlocks, hgv⟩ := C0
  have hA : ∀ q : Nat, s.heap.size ≤ q → (fun q : Nat => s.heap.size ≤ q) q := fun _ h => h
  have hbA : ¬ (fun q : Nat => s.heap.size ≤ q) b := Nat.not_le.mpr hbl
  have hX : CX p s m #[Value.ref b] meth c code 4 ret RL := ⟨hx, hb, hr, hml, fun w hw => hts w (List.mem_filter.mp hw).1, hown, hlocks, wN.of (fun w hw => hts w (List.mem_append_right _ hw))⟩
  obtain ⟨r, s1, t1, h7, h8, hR1⟩ := hst (xs (x3 + (1 : Int32)).toNatClampNeg) (xs (x3 + (2 : Int32)).toNatClampNeg) (xs (x3 + (3 : Int32)).toNatClampNeg) (xs (x3 + (4 : Int32)).toNatClampNeg) (xs (x3 + (5 : Int32)).toNatClampNeg) s0 t0 hR
  refine lv_aload_n hx hb dL_law_839 rfl (lv_at hl 1 rfl) (W.pc 840 rfl ?_)
  refine lv_aload_n hx hb dL_law_840 rfl (lv_at hl 0 rfl) (W.pc 841 rfl ?_)
  refine lv_iload_n hx hb dL_law_841 rfl (lv_at hl 3 rfl) (W.pc 842 rfl ?_)
  refine lv_iconst (v := (1 : Int32)) hx hb dL_law_842 (by decide) (W.pc 843 rfl ?_)
  refine lv_iadd hx hb dL_law_843 (W.pc 844 rfl ?_)
  refine va_sld hx hb hX0 hbl hbA hS (hin 1 (by decide)) dL_law_844 (W.pc 845 rfl ?_)
  refine lv_aload_n hx hb dL_law_845 rfl (lv_at hl 0 rfl) (W.pc 846 rfl ?_)
  refine lv_iload_n hx hb dL_law_846 rfl (lv_at hl 3 rfl) (W.pc 847 rfl ?_)
  refine lv_iconst (v := (2 : Int32)) hx hb dL_law_847 (by decide) (W.pc 848 rfl ?_)
  refine lv_iadd hx hb dL_law_848 (W.pc 849 rfl ?_)
  refine va_sld hx hb hX0 hbl hbA hS (hin 2 (by decide)) dL_law_849 (W.pc 850 rfl ?_)
  refine lv_aload_n hx hb dL_law_850 rfl (lv_at hl 0 rfl) (W.pc 851 rfl ?_)
  refine lv_iload_n hx hb dL_law_851 rfl (lv_at hl 3 rfl) (W.pc 852 rfl ?_)
  refine lv_iconst (v := (3 : Int32)) hx hb dL_law_852 (by decide) (W.pc 853 rfl ?_)
  refine lv_iadd hx hb dL_law_853 (W.pc 854 rfl ?_)
  refine va_sld hx hb hX0 hbl hbA hS (hin 3 (by decide)) dL_law_854 (W.pc 855 rfl ?_)
  refine lv_aload_n hx hb dL_law_855 rfl (lv_at hl 0 rfl) (W.pc 856 rfl ?_)
  refine lv_iload_n hx hb dL_law_856 rfl (lv_at hl 3 rfl) (W.pc 857 rfl ?_)
  refine lv_iconst (v := (4 : Int32)) hx hb dL_law_857 (by decide) (W.pc 858 rfl ?_)
  refine lv_iadd hx hb dL_law_858 (W.pc 859 rfl ?_)
  refine va_sld hx hb hX0 hbl hbA hS (hin 4 (by decide)) dL_law_859 (W.pc 860 rfl ?_)
  refine lv_aload_n hx hb dL_law_860 rfl (lv_at hl 0 rfl) (W.pc 861 rfl ?_)
  refine lv_iload_n hx hb dL_law_861 rfl (lv_at hl 3 rfl) (W.pc 862 rfl ?_)
  refine lv_iconst (v := (5 : Int32)) hx hb dL_law_862 (by decide) (W.pc 863 rfl ?_)
  refine lv_iadd hx hb dL_law_863 (W.pc 864 rfl ?_)
  refine va_sld hx hb hX0 hbl hbA hS (hin 5 (by decide)) dL_law_864 (W.pc 865 rfl ?_)
  refine kVl (st1 := [.int r]) hX (L7_mark l E ad (xs (x3 + (1 : Int32)).toNatClampNeg) (xs (x3 + (2 : Int32)).toNatClampNeg) (xs (x3 + (3 : Int32)).toNatClampNeg) (xs (x3 + (4 : Int32)).toNatClampNeg) (xs (x3 + (5 : Int32)).toNatClampNeg) s0 r s1 h7) B_X7_mark w_3_169 hK hPa hPb hD hS hA (q0 := 0) (ci := 4) rfl rfl rfl rfl hl.1 rfl (Nat.le_of_ble_eq_true rfl) ⟨Nat.le_of_ble_eq_true rfl, Nat.le_of_ble_eq_true rfl⟩ ⟨Nat.le_of_ble_eq_true rfl, Nat.le_of_ble_eq_true rfl⟩ dL_law_865 rfl (fun H locs hPa hPb hD hS => W.pc 868 rfl ?_)
  refine lv_aload_n hx hb dL_law_868 rfl (lv_at hl 2 rfl) (W.pc 869 rfl ?_)
  refine lv_aload_n hx hb dL_law_869 rfl (lv_at hl 0 rfl) (W.pc 870 rfl ?_)
  refine lv_iload_n hx hb dL_law_870 rfl (lv_at hl 3 rfl) (W.pc 871 rfl ?_)
  refine lv_iconst (v := (1 : Int32)) hx hb dL_law_871 (by decide) (W.pc 872 rfl ?_)
  refine lv_iadd hx hb dL_law_872 (W.pc 873 rfl ?_)
  refine va_sld hx hb hX0 hbl hbA hS (hin 1 (by decide)) dL_law_873 (W.pc 874 rfl ?_)
  refine lv_aload_n hx hb dL_law_874 rfl (lv_at hl 0 rfl) (W.pc 875 rfl ?_)
  refine lv_iload_n hx hb dL_law_875 rfl (lv_at hl 3 rfl) (W.pc 876 rfl ?_)
  refine lv_iconst (v := (2 : Int32)) hx hb dL_law_876 (by decide) (W.pc 877 rfl ?_)
  refine lv_iadd hx hb dL_law_877 (W.pc 878 rfl ?_)
  refine va_sld hx hb hX0 hbl hbA hS (hin 2 (by decide)) dL_law_878 (W.pc 879 rfl ?_)
  refine lv_aload_n hx hb dL_law_879 rfl (lv_at hl 0 rfl) (W.pc 880 rfl ?_)
  refine lv_iload_n hx hb dL_law_880 rfl (lv_at hl 3 rfl) (W.pc 881 rfl ?_)
  refine lv_iconst (v := (3 : Int32)) hx hb dL_law_881 (by decide) (W.pc 882 rfl ?_)
  refine lv_iadd hx hb dL_law_882 (W.pc 883 rfl ?_)
  refine va_sld hx hb hX0 hbl hbA hS (hin 3 (by decide)) dL_law_883 (W.pc 884 rfl ?_)
  refine lv_aload_n hx hb dL_law_884 rfl (lv_at hl 0 rfl) (W.pc 885 rfl ?_)
  refine lv_iload_n hx hb dL_law_885 rfl (lv_at hl 3 rfl) (W.pc 886 rfl ?_)
  refine lv_iconst (v := (4 : Int32)) hx hb dL_law_886 (by decide) (W.pc 887 rfl ?_)
  refine lv_iadd hx hb dL_law_887 (W.pc 888 rfl ?_)
  refine va_sld hx hb hX0 hbl hbA hS (hin 4 (by decide)) dL_law_888 (W.pc 889 rfl ?_)
  refine lv_aload_n hx hb dL_law_889 rfl (lv_at hl 0 rfl) (W.pc 890 rfl ?_)
  refine lv_iload_n hx hb dL_law_890 rfl (lv_at hl 3 rfl) (W.pc 891 rfl ?_)
  refine lv_iconst (v := (5 : Int32)) hx hb dL_law_891 (by decide) (W.pc 892 rfl ?_)
  refine lv_iadd hx hb dL_law_892 (W.pc 893 rfl ?_)
  refine va_sld hx hb hX0 hbl hbA hS (hin 5 (by decide)) dL_law_893 (W.pc 894 rfl ?_)
  refine kVr (st1 := [.int r, .int r]) hX (L8_mark l E md (xs (x3 + (1 : Int32)).toNatClampNeg) (xs (x3 + (2 : Int32)).toNatClampNeg) (xs (x3 + (3 : Int32)).toNatClampNeg) (xs (x3 + (4 : Int32)).toNatClampNeg) (xs (x3 + (5 : Int32)).toNatClampNeg) t0 r t1 h8) B_X8_mark w_5_130 hK hPa hPb hD hS hA (q0 := 0) (ci := 5) rfl rfl rfl rfl hl.1 rfl (Nat.le_of_ble_eq_true rfl) ⟨Nat.le_of_ble_eq_true rfl, Nat.le_of_ble_eq_true rfl⟩ ⟨Nat.le_of_ble_eq_true rfl, Nat.le_of_ble_eq_true rfl⟩ dL_law_894 rfl (fun H locs hPa hPb hD hS => W.pc 897 rfl ?_)
  refine lv_icmp_eq (tgt := 1216) hx hb dL_law_897 (by decide) (fun _ => ?_) (fun q => absurd rfl q)
  exact K s1 t1 hR1 _ _ _ hPa hPb hD hS hl
set_option maxHeartbeats 4000000 in
set_option maxRecDepth 100000 in
theorem law_24 {p : Program} {l : Launch} {e : Env} {s : State} {m : MethodId} {below : List Frame} {meth : Method} {c : Code} {b L : Nat} {xs : Nat → Int32} {REL : CSt → MSt → Prop} (hst : ∀ (p1 : Int32) (s : CSt) (t : MSt), REL s t → ∃ (r : Int32) (s1 : CSt) (t1 : MSt), S7_forget p1 s = some (r, s1) ∧ S8_forget p1 t = some (r, t1) ∧ REL s1 t1) (C0 : lw_At p s m meth c b L xs) {x3 : Int32} (hin : ∀ j : Nat, j < 6 → vp_in (x3 + nI j) L) {E : wE} {Z : sE} (hK : wK E s) (hF : SF Z (fun q : Nat => s.heap.size ≤ q) s s.heap) {ad md : Nat → Nat} {s0 : CSt} {t0 : MSt} (hR : REL s0 t0) (K : ∀ (s1 : CSt) (t1 : MSt), REL s1 t1 → ∀ (H : Heap) (locs : List Loc) (ls : Array Slot), wP E (CW E ad s1) H → wP E (MWd E md t1) H → va_D (fun q : Nat => s.heap.size ≤ q) (CW E ad s1 ++ MWd E md t1) → va_S (fun q : Nat => s.heap.size ≤ q) s.heap H locs → lv_has ls 4 [(0, .ref b), (1, .ref (ad 0)), (2, .ref (md 0)), (3, .int x3)] → W p l e room_1 s m #[Value.ref b] below meth c H locs 200 6980 (lw_Z below #[Value.ref b] s) (F0 m 1216 ls [])) : ∀ (H : Heap) (locs : List Loc) (ls : Array Slot), wP E (CW E ad s0) H → wP E (MWd E md t0) H → va_D (fun q : Nat => s.heap.size ≤ q) (CW E ad s0 ++ MWd E md t0) → va_S (fun q : Nat => s.heap.size ≤ q) s.heap H locs → lv_has ls 4 [(0, .ref b), (1, .ref (ad 0)), (2, .ref (md 0)), (3, .int x3)] → W p l e room_1 s m #[Value.ref b] below meth c H locs 200 6980 (lw_Z below #[Value.ref b] s) (F0 m 902 ls []) := by
  intro H locs ls hPa hPb hD hS hl
  obtain ⟨hx, hb, hr, hml, hown, hts, hX0, hbl, hlocks, hgv⟩ := C0
  have hA : ∀ q : Nat, s.heap.size ≤ q → (fun q : Nat => s.heap.size ≤ q) q := fun _ h => h
  have hbA : ¬ (fun q : Nat => s.heap.size ≤ q) b := Nat.not_le.mpr hbl
  have hX : CX p s m #[Value.ref b] meth c code 4 ret RL := ⟨hx, hb, hr, hml, fun w hw => hts w (List.mem_filter.mp hw).1, hown, hlocks, wN.of (fun w hw => hts w (List.mem_append_right _ hw))⟩
  obtain ⟨r, s1, t1, h7, h8, hR1⟩ := hst (xs (x3 + (1 : Int32)).toNatClampNeg) s0 t0 hR
  refine lv_aload_n hx hb dL_law_902 rfl (lv_at hl 1 rfl) (W.pc 903 rfl ?_)
  refine lv_aload_n hx hb dL_law_903 rfl (lv_at hl 0 rfl) (W.pc 904 rfl ?_)
  refine lv_iload_n hx hb dL_law_904 rfl (lv_at hl 3 rfl) (W.pc 905 rfl ?_)
  refine lv_iconst (v := (1 : Int32)) hx hb dL_law_905 (by decide) (W.pc 906 rfl ?_)
  refine lv_iadd hx hb dL_law_906 (W.pc 907 rfl ?_)
  refine va_sld hx hb hX0 hbl hbA hS (hin 1 (by decide)) dL_law_907 (W.pc 908 rfl ?_)
  refine kVl (st1 := [.int r]) hX (L7_forget l E ad (xs (x3 + (1 : Int32)).toNatClampNeg) s0 r s1 h7) B_X7_forget w_3_176 hK hPa hPb hD hS hA (q0 := 0) (ci := 4) rfl rfl rfl rfl hl.1 rfl (Nat.le_of_ble_eq_true rfl) ⟨Nat.le_of_ble_eq_true rfl, Nat.le_of_ble_eq_true rfl⟩ ⟨Nat.le_of_ble_eq_true rfl, Nat.le_of_ble_eq_true rfl⟩ dL_law_908 rfl (fun H locs hPa hPb hD hS => W.pc 911 rfl ?_)
  refine lv_aload_n hx hb dL_law_911 rfl (lv_at hl 2 rfl) (W.pc 912 rfl ?_)
  refine lv_aload_n hx hb dL_law_912 rfl (lv_at hl 0 rfl) (W.pc 913 rfl ?_)
  refine lv_iload_n hx hb dL_law_913 rfl (lv_at hl 3 rfl) (W.pc 914 rfl ?_)
  refine lv_iconst (v := (1 : Int32)) hx hb dL_law_914 (by decide) (W.pc 915 rfl ?_)
  refine lv_iadd hx hb dL_law_915 (W.pc 916 rfl ?_)
  refine va_sld hx hb hX0 hbl hbA hS (hin 1 (by decide)) dL_law_916 (W.pc 917 rfl ?_)
  refine kVr (st1 := [.int r, .int r]) hX (L8_forget l E md (xs (x3 + (1 : Int32)).toNatClampNeg) t0 r t1 h8) B_X8_forget w_5_134 hK hPa hPb hD hS hA (q0 := 0) (ci := 5) rfl rfl rfl rfl hl.1 rfl (Nat.le_of_ble_eq_true rfl) ⟨Nat.le_of_ble_eq_true rfl, Nat.le_of_ble_eq_true rfl⟩ ⟨Nat.le_of_ble_eq_true rfl, Nat.le_of_ble_eq_true rfl⟩ dL_law_917 rfl (fun H locs hPa hPb hD hS => W.pc 920 rfl ?_)
  refine lv_icmp_eq (tgt := 1216) hx hb dL_law_920 (by decide) (fun _ => ?_) (fun q => absurd rfl q)
  exact K s1 t1 hR1 _ _ _ hPa hPb hD hS hl
set_option maxHeartbeats 4000000 in
set_option maxRecDepth 100000 in
theorem law_25 {p : Program} {l : Launch} {e : Env} {s : State} {m : MethodId} {below : List Frame} {meth : Method} {c : Code} {b L : Nat} {xs : Nat → Int32} {REL : CSt → MSt → Prop} (hst : ∀ (s : CSt) (t : MSt), REL s t → ∃ (r : Int32) (s1 : CSt) (t1 : MSt), S7_is s = some (r, s1) ∧ S8_is t = some (r, t1) ∧ REL s1 t1) (C0 : lw_At p s m meth c b L xs) {x3 : Int32} (hin : ∀ j : Nat, j < 6 → vp_in (x3 + nI j) L) {E : wE} {Z : sE} (hK : wK E s) (hF : SF Z (fun q : Nat => s.heap.size ≤ q) s s.heap) {ad md : Nat → Nat} {s0 : CSt} {t0 : MSt} (hR : REL s0 t0) (K : ∀ (s1 : CSt) (t1 : MSt), REL s1 t1 → ∀ (H : Heap) (locs : List Loc) (ls : Array Slot), wP E (CW E ad s1) H → wP E (MWd E md t1) H → va_D (fun q : Nat => s.heap.size ≤ q) (CW E ad s1 ++ MWd E md t1) → va_S (fun q : Nat => s.heap.size ≤ q) s.heap H locs → lv_has ls 4 [(0, .ref b), (1, .ref (ad 0)), (2, .ref (md 0)), (3, .int x3)] → W p l e room_1 s m #[Value.ref b] below meth c H locs 200 6980 (lw_Z below #[Value.ref b] s) (F0 m 1216 ls [])) : ∀ (H : Heap) (locs : List Loc) (ls : Array Slot), wP E (CW E ad s0) H → wP E (MWd E md t0) H → va_D (fun q : Nat => s.heap.size ≤ q) (CW E ad s0 ++ MWd E md t0) → va_S (fun q : Nat => s.heap.size ≤ q) s.heap H locs → lv_has ls 4 [(0, .ref b), (1, .ref (ad 0)), (2, .ref (md 0)), (3, .int x3)] → W p l e room_1 s m #[Value.ref b] below meth c H locs 200 6980 (lw_Z below #[Value.ref b] s) (F0 m 925 ls []) := by
  intro H locs ls hPa hPb hD hS hl
  obtain ⟨hx, hb, hr, hml, hown, hts, hX0, hbl, hlocks, hgv⟩ := C0
  have hA : ∀ q : Nat, s.heap.size ≤ q → (fun q : Nat => s.heap.size ≤ q) q := fun _ h => h
  have hbA : ¬ (fun q : Nat => s.heap.size ≤ q) b := Nat.not_le.mpr hbl
  have hX : CX p s m #[Value.ref b] meth c code 4 ret RL := ⟨hx, hb, hr, hml, fun w hw => hts w (List.mem_filter.mp hw).1, hown, hlocks, wN.of (fun w hw => hts w (List.mem_append_right _ hw))⟩
  obtain ⟨r, s1, t1, h7, h8, hR1⟩ := hst s0 t0 hR
  refine lv_aload_n hx hb dL_law_925 rfl (lv_at hl 1 rfl) (W.pc 926 rfl ?_)
  refine kVl (st1 := [.int r]) hX (L7_is l E ad  s0 r s1 h7) B_X7_is w_3_180 hK hPa hPb hD hS hA (q0 := 0) (ci := 4) rfl rfl rfl rfl hl.1 rfl (Nat.le_of_ble_eq_true rfl) ⟨Nat.le_of_ble_eq_true rfl, Nat.le_of_ble_eq_true rfl⟩ ⟨Nat.le_of_ble_eq_true rfl, Nat.le_of_ble_eq_true rfl⟩ dL_law_926 rfl (fun H locs hPa hPb hD hS => W.pc 929 rfl ?_)
  refine lv_aload_n hx hb dL_law_929 rfl (lv_at hl 2 rfl) (W.pc 930 rfl ?_)
  refine kVr (st1 := [.int r, .int r]) hX (L8_is l E md  t0 r t1 h8) B_X8_is w_5_138 hK hPa hPb hD hS hA (q0 := 0) (ci := 5) rfl rfl rfl rfl hl.1 rfl (Nat.le_of_ble_eq_true rfl) ⟨Nat.le_of_ble_eq_true rfl, Nat.le_of_ble_eq_true rfl⟩ ⟨Nat.le_of_ble_eq_true rfl, Nat.le_of_ble_eq_true rfl⟩ dL_law_930 rfl (fun H locs hPa hPb hD hS => W.pc 933 rfl ?_)
  refine lv_icmp_eq (tgt := 1216) hx hb dL_law_933 (by decide) (fun _ => ?_) (fun q => absurd rfl q)
  exact K s1 t1 hR1 _ _ _ hPa hPb hD hS hl
set_option maxHeartbeats 4000000 in
set_option maxRecDepth 100000 in
theorem law_26 {p : Program} {l : Launch} {e : Env} {s : State} {m : MethodId} {below : List Frame} {meth : Method} {c : Code} {b L : Nat} {xs : Nat → Int32} {REL : CSt → MSt → Prop} (hst : ∀ (s : CSt) (t : MSt), REL s t → ∃ (r : Int32) (s1 : CSt) (t1 : MSt), S7_watch s = some (r, s1) ∧ S8_watch t = some (r, t1) ∧ REL s1 t1) (C0 : lw_At p s m meth c b L xs) {x3 : Int32} (hin : ∀ j : Nat, j < 6 → vp_in (x3 + nI j) L) {E : wE} {Z : sE} (hK : wK E s) (hF : SF Z (fun q : Nat => s.heap.size ≤ q) s s.heap) {ad md : Nat → Nat} {s0 : CSt} {t0 : MSt} (hR : REL s0 t0) (K : ∀ (s1 : CSt) (t1 : MSt), REL s1 t1 → ∀ (H : Heap) (locs : List Loc) (ls : Array Slot), wP E (CW E ad s1) H → wP E (MWd E md t1) H → va_D (fun q : Nat => s.heap.size ≤ q) (CW E ad s1 ++ MWd E md t1) → va_S (fun q : Nat => s.heap.size ≤ q) s.heap H locs → lv_has ls 4 [(0, .ref b), (1, .ref (ad 0)), (2, .ref (md 0)), (3, .int x3)] → W p l e room_1 s m #[Value.ref b] below meth c H locs 200 6980 (lw_Z below #[Value.ref b] s) (F0 m 1216 ls [])) : ∀ (H : Heap) (locs : List Loc) (ls : Array Slot), wP E (CW E ad s0) H → wP E (MWd E md t0) H → va_D (fun q : Nat => s.heap.size ≤ q) (CW E ad s0 ++ MWd E md t0) → va_S (fun q : Nat => s.heap.size ≤ q) s.heap H locs → lv_has ls 4 [(0, .ref b), (1, .ref (ad 0)), (2, .ref (md 0)), (3, .int x3)] → W p l e room_1 s m #[Value.ref b] below meth c H locs 200 6980 (lw_Z below #[Value.ref b] s) (F0 m 938 ls []) := by
  intro H locs ls hPa hPb hD hS hl
  obtain ⟨hx, hb, hr, hml, hown, hts, hX0, hbl, hlocks, hgv⟩ := C0
  have hA : ∀ q : Nat, s.heap.size ≤ q → (fun q : Nat => s.heap.size ≤ q) q := fun _ h => h
  have hbA : ¬ (fun q : Nat => s.heap.size ≤ q) b := Nat.not_le.mpr hbl
  have hX : CX p s m #[Value.ref b] meth c code 4 ret RL := ⟨hx, hb, hr, hml, fun w hw => hts w (List.mem_filter.mp hw).1, hown, hlocks, wN.of (fun w hw => hts w (List.mem_append_right _ hw))⟩
  obtain ⟨r, s1, t1, h7, h8, hR1⟩ := hst s0 t0 hR
  refine lv_aload_n hx hb dL_law_938 rfl (lv_at hl 1 rfl) (W.pc 939 rfl ?_)
  refine kVl (st1 := [.int r]) hX (L7_watch l E ad  s0 r s1 h7) B_X7_watch w_3_188 hK hPa hPb hD hS hA (q0 := 0) (ci := 4) rfl rfl rfl rfl hl.1 rfl (Nat.le_of_ble_eq_true rfl) ⟨Nat.le_of_ble_eq_true rfl, Nat.le_of_ble_eq_true rfl⟩ ⟨Nat.le_of_ble_eq_true rfl, Nat.le_of_ble_eq_true rfl⟩ dL_law_939 rfl (fun H locs hPa hPb hD hS => W.pc 942 rfl ?_)
  refine lv_aload_n hx hb dL_law_942 rfl (lv_at hl 2 rfl) (W.pc 943 rfl ?_)
  refine kVr (st1 := [.int r, .int r]) hX (L8_watch l E md  t0 r t1 h8) B_X8_watch w_5_142 hK hPa hPb hD hS hA (q0 := 0) (ci := 5) rfl rfl rfl rfl hl.1 rfl (Nat.le_of_ble_eq_true rfl) ⟨Nat.le_of_ble_eq_true rfl, Nat.le_of_ble_eq_true rfl⟩ ⟨Nat.le_of_ble_eq_true rfl, Nat.le_of_ble_eq_true rfl⟩ dL_law_943 rfl (fun H locs hPa hPb hD hS => W.pc 946 rfl ?_)
  refine lv_icmp_eq (tgt := 1216) hx hb dL_law_946 (by decide) (fun _ => ?_) (fun q => absurd rfl q)
  exact K s1 t1 hR1 _ _ _ hPa hPb hD hS hl
set_option maxHeartbeats 4000000 in
set_option maxRecDepth 100000 in
theorem law_27 {p : Program} {l : Launch} {e : Env} {s : State} {m : MethodId} {below : List Frame} {meth : Method} {c : Code} {b L : Nat} {xs : Nat → Int32} {REL : CSt → MSt → Prop} (hst : ∀ (p1 : Int32) (s : CSt) (t : MSt), REL s t → ∃ (r : Int32) (s1 : CSt) (t1 : MSt), S7_kinds p1 s = some (r, s1) ∧ S8_kinds p1 t = some (r, t1) ∧ REL s1 t1) (C0 : lw_At p s m meth c b L xs) {x3 : Int32} (hin : ∀ j : Nat, j < 6 → vp_in (x3 + nI j) L) {E : wE} {Z : sE} (hK : wK E s) (hF : SF Z (fun q : Nat => s.heap.size ≤ q) s s.heap) {ad md : Nat → Nat} {s0 : CSt} {t0 : MSt} (hR : REL s0 t0) (K : ∀ (s1 : CSt) (t1 : MSt), REL s1 t1 → ∀ (H : Heap) (locs : List Loc) (ls : Array Slot), wP E (CW E ad s1) H → wP E (MWd E md t1) H → va_D (fun q : Nat => s.heap.size ≤ q) (CW E ad s1 ++ MWd E md t1) → va_S (fun q : Nat => s.heap.size ≤ q) s.heap H locs → lv_has ls 4 [(0, .ref b), (1, .ref (ad 0)), (2, .ref (md 0)), (3, .int x3)] → W p l e room_1 s m #[Value.ref b] below meth c H locs 200 6980 (lw_Z below #[Value.ref b] s) (F0 m 1216 ls [])) : ∀ (H : Heap) (locs : List Loc) (ls : Array Slot), wP E (CW E ad s0) H → wP E (MWd E md t0) H → va_D (fun q : Nat => s.heap.size ≤ q) (CW E ad s0 ++ MWd E md t0) → va_S (fun q : Nat => s.heap.size ≤ q) s.heap H locs → lv_has ls 4 [(0, .ref b), (1, .ref (ad 0)), (2, .ref (md 0)), (3, .int x3)] → W p l e room_1 s m #[Value.ref b] below meth c H locs 200 6980 (lw_Z below #[Value.ref b] s) (F0 m 951 ls []) := by
  intro H locs ls hPa hPb hD hS hl
  obtain ⟨hx, hb, hr, hml, hown, hts, hX0, hbl, hlocks, hgv⟩ := C0
  have hA : ∀ q : Nat, s.heap.size ≤ q → (fun q : Nat => s.heap.size ≤ q) q := fun _ h => h
  have hbA : ¬ (fun q : Nat => s.heap.size ≤ q) b := Nat.not_le.mpr hbl
  have hX : CX p s m #[Value.ref b] meth c code 4 ret RL := ⟨hx, hb, hr, hml, fun w hw => hts w (List.mem_filter.mp hw).1, hown, hlocks, wN.of (fun w hw => hts w (List.mem_append_right _ hw))⟩
  obtain ⟨r, s1, t1, h7, h8, hR1⟩ := hst (xs (x3 + (1 : Int32)).toNatClampNeg) s0 t0 hR
  refine lv_aload_n hx hb dL_law_951 rfl (lv_at hl 1 rfl) (W.pc 952 rfl ?_)
  refine lv_aload_n hx hb dL_law_952 rfl (lv_at hl 0 rfl) (W.pc 953 rfl ?_)
  refine lv_iload_n hx hb dL_law_953 rfl (lv_at hl 3 rfl) (W.pc 954 rfl ?_)
  refine lv_iconst (v := (1 : Int32)) hx hb dL_law_954 (by decide) (W.pc 955 rfl ?_)
  refine lv_iadd hx hb dL_law_955 (W.pc 956 rfl ?_)
  refine va_sld hx hb hX0 hbl hbA hS (hin 1 (by decide)) dL_law_956 (W.pc 957 rfl ?_)
  refine kVl (st1 := [.int r]) hX (L7_kinds l E ad (xs (x3 + (1 : Int32)).toNatClampNeg) s0 r s1 h7) B_X7_kinds w_3_198 hK hPa hPb hD hS hA (q0 := 0) (ci := 4) rfl rfl rfl rfl hl.1 rfl (Nat.le_of_ble_eq_true rfl) ⟨Nat.le_of_ble_eq_true rfl, Nat.le_of_ble_eq_true rfl⟩ ⟨Nat.le_of_ble_eq_true rfl, Nat.le_of_ble_eq_true rfl⟩ dL_law_957 rfl (fun H locs hPa hPb hD hS => W.pc 960 rfl ?_)
  refine lv_aload_n hx hb dL_law_960 rfl (lv_at hl 2 rfl) (W.pc 961 rfl ?_)
  refine lv_aload_n hx hb dL_law_961 rfl (lv_at hl 0 rfl) (W.pc 962 rfl ?_)
  refine lv_iload_n hx hb dL_law_962 rfl (lv_at hl 3 rfl) (W.pc 963 rfl ?_)
  refine lv_iconst (v := (1 : Int32)) hx hb dL_law_963 (by decide) (W.pc 964 rfl ?_)
  refine lv_iadd hx hb dL_law_964 (W.pc 965 rfl ?_)
  refine va_sld hx hb hX0 hbl hbA hS (hin 1 (by decide)) dL_law_965 (W.pc 966 rfl ?_)
  refine kVr (st1 := [.int r, .int r]) hX (L8_kinds l E md (xs (x3 + (1 : Int32)).toNatClampNeg) t0 r t1 h8) B_X8_kinds w_5_154 hK hPa hPb hD hS hA (q0 := 0) (ci := 5) rfl rfl rfl rfl hl.1 rfl (Nat.le_of_ble_eq_true rfl) ⟨Nat.le_of_ble_eq_true rfl, Nat.le_of_ble_eq_true rfl⟩ ⟨Nat.le_of_ble_eq_true rfl, Nat.le_of_ble_eq_true rfl⟩ dL_law_966 rfl (fun H locs hPa hPb hD hS => W.pc 969 rfl ?_)
  refine lv_icmp_eq (tgt := 1216) hx hb dL_law_969 (by decide) (fun _ => ?_) (fun q => absurd rfl q)
  exact K s1 t1 hR1 _ _ _ hPa hPb hD hS hl
set_option maxHeartbeats 4000000 in
set_option maxRecDepth 100000 in
theorem law_28 {p : Program} {l : Launch} {e : Env} {s : State} {m : MethodId} {below : List Frame} {meth : Method} {c : Code} {b L : Nat} {xs : Nat → Int32} {REL : CSt → MSt → Prop} (hst : ∀ (p1 : Int32) (s : CSt) (t : MSt), REL s t → ∃ (r : Int32) (s1 : CSt) (t1 : MSt), S7_tries p1 s = some (r, s1) ∧ S8_tries p1 t = some (r, t1) ∧ REL s1 t1) (C0 : lw_At p s m meth c b L xs) {x3 : Int32} (hin : ∀ j : Nat, j < 6 → vp_in (x3 + nI j) L) {E : wE} {Z : sE} (hK : wK E s) (hF : SF Z (fun q : Nat => s.heap.size ≤ q) s s.heap) {ad md : Nat → Nat} {s0 : CSt} {t0 : MSt} (hR : REL s0 t0) (K : ∀ (s1 : CSt) (t1 : MSt), REL s1 t1 → ∀ (H : Heap) (locs : List Loc) (ls : Array Slot), wP E (CW E ad s1) H → wP E (MWd E md t1) H → va_D (fun q : Nat => s.heap.size ≤ q) (CW E ad s1 ++ MWd E md t1) → va_S (fun q : Nat => s.heap.size ≤ q) s.heap H locs → lv_has ls 4 [(0, .ref b), (1, .ref (ad 0)), (2, .ref (md 0)), (3, .int x3)] → W p l e room_1 s m #[Value.ref b] below meth c H locs 200 6980 (lw_Z below #[Value.ref b] s) (F0 m 1216 ls [])) : ∀ (H : Heap) (locs : List Loc) (ls : Array Slot), wP E (CW E ad s0) H → wP E (MWd E md t0) H → va_D (fun q : Nat => s.heap.size ≤ q) (CW E ad s0 ++ MWd E md t0) → va_S (fun q : Nat => s.heap.size ≤ q) s.heap H locs → lv_has ls 4 [(0, .ref b), (1, .ref (ad 0)), (2, .ref (md 0)), (3, .int x3)] → W p l e room_1 s m #[Value.ref b] below meth c H locs 200 6980 (lw_Z below #[Value.ref b] s) (F0 m 974 ls []) := by
  intro H locs ls hPa hPb hD hS hl
  obtain ⟨hx, hb, hr, hml, hown, hts, hX0, hbl, hlocks, hgv⟩ := C0
  have hA : ∀ q : Nat, s.heap.size ≤ q → (fun q : Nat => s.heap.size ≤ q) q := fun _ h => h
  have hbA : ¬ (fun q : Nat => s.heap.size ≤ q) b := Nat.not_le.mpr hbl
  have hX : CX p s m #[Value.ref b] meth c code 4 ret RL := ⟨hx, hb, hr, hml, fun w hw => hts w (List.mem_filter.mp hw).1, hown, hlocks, wN.of (fun w hw => hts w (List.mem_append_right _ hw))⟩
  obtain ⟨r, s1, t1, h7, h8, hR1⟩ := hst (xs (x3 + (1 : Int32)).toNatClampNeg) s0 t0 hR
  refine lv_aload_n hx hb dL_law_974 rfl (lv_at hl 1 rfl) (W.pc 975 rfl ?_)
  refine lv_aload_n hx hb dL_law_975 rfl (lv_at hl 0 rfl) (W.pc 976 rfl ?_)
  refine lv_iload_n hx hb dL_law_976 rfl (lv_at hl 3 rfl) (W.pc 977 rfl ?_)
  refine lv_iconst (v := (1 : Int32)) hx hb dL_law_977 (by decide) (W.pc 978 rfl ?_)
  refine lv_iadd hx hb dL_law_978 (W.pc 979 rfl ?_)
  refine va_sld hx hb hX0 hbl hbA hS (hin 1 (by decide)) dL_law_979 (W.pc 980 rfl ?_)
  refine kVl (st1 := [.int r]) hX (L7_tries l E ad (xs (x3 + (1 : Int32)).toNatClampNeg) s0 r s1 h7) B_X7_tries w_3_207 hK hPa hPb hD hS hA (q0 := 0) (ci := 4) rfl rfl rfl rfl hl.1 rfl (Nat.le_of_ble_eq_true rfl) ⟨Nat.le_of_ble_eq_true rfl, Nat.le_of_ble_eq_true rfl⟩ ⟨Nat.le_of_ble_eq_true rfl, Nat.le_of_ble_eq_true rfl⟩ dL_law_980 rfl (fun H locs hPa hPb hD hS => W.pc 983 rfl ?_)
  refine lv_aload_n hx hb dL_law_983 rfl (lv_at hl 2 rfl) (W.pc 984 rfl ?_)
  refine lv_aload_n hx hb dL_law_984 rfl (lv_at hl 0 rfl) (W.pc 985 rfl ?_)
  refine lv_iload_n hx hb dL_law_985 rfl (lv_at hl 3 rfl) (W.pc 986 rfl ?_)
  refine lv_iconst (v := (1 : Int32)) hx hb dL_law_986 (by decide) (W.pc 987 rfl ?_)
  refine lv_iadd hx hb dL_law_987 (W.pc 988 rfl ?_)
  refine va_sld hx hb hX0 hbl hbA hS (hin 1 (by decide)) dL_law_988 (W.pc 989 rfl ?_)
  refine kVr (st1 := [.int r, .int r]) hX (L8_tries l E md (xs (x3 + (1 : Int32)).toNatClampNeg) t0 r t1 h8) B_X8_tries w_5_162 hK hPa hPb hD hS hA (q0 := 0) (ci := 5) rfl rfl rfl rfl hl.1 rfl (Nat.le_of_ble_eq_true rfl) ⟨Nat.le_of_ble_eq_true rfl, Nat.le_of_ble_eq_true rfl⟩ ⟨Nat.le_of_ble_eq_true rfl, Nat.le_of_ble_eq_true rfl⟩ dL_law_989 rfl (fun H locs hPa hPb hD hS => W.pc 992 rfl ?_)
  refine lv_icmp_eq (tgt := 1216) hx hb dL_law_992 (by decide) (fun _ => ?_) (fun q => absurd rfl q)
  exact K s1 t1 hR1 _ _ _ hPa hPb hD hS hl
set_option maxHeartbeats 4000000 in
set_option maxRecDepth 100000 in
theorem law_29 {p : Program} {l : Launch} {e : Env} {s : State} {m : MethodId} {below : List Frame} {meth : Method} {c : Code} {b L : Nat} {xs : Nat → Int32} {REL : CSt → MSt → Prop} (hst : ∀ (s : CSt) (t : MSt), REL s t → ∃ (r : Int32) (s1 : CSt) (t1 : MSt), S7_game s = some (r, s1) ∧ S8_game t = some (r, t1) ∧ REL s1 t1) (C0 : lw_At p s m meth c b L xs) {x3 : Int32} (hin : ∀ j : Nat, j < 6 → vp_in (x3 + nI j) L) {E : wE} {Z : sE} (hK : wK E s) (hF : SF Z (fun q : Nat => s.heap.size ≤ q) s s.heap) {ad md : Nat → Nat} {s0 : CSt} {t0 : MSt} (hR : REL s0 t0) (K : ∀ (s1 : CSt) (t1 : MSt), REL s1 t1 → ∀ (H : Heap) (locs : List Loc) (ls : Array Slot), wP E (CW E ad s1) H → wP E (MWd E md t1) H → va_D (fun q : Nat => s.heap.size ≤ q) (CW E ad s1 ++ MWd E md t1) → va_S (fun q : Nat => s.heap.size ≤ q) s.heap H locs → lv_has ls 4 [(0, .ref b), (1, .ref (ad 0)), (2, .ref (md 0)), (3, .int x3)] → W p l e room_1 s m #[Value.ref b] below meth c H locs 200 6980 (lw_Z below #[Value.ref b] s) (F0 m 1216 ls [])) : ∀ (H : Heap) (locs : List Loc) (ls : Array Slot), wP E (CW E ad s0) H → wP E (MWd E md t0) H → va_D (fun q : Nat => s.heap.size ≤ q) (CW E ad s0 ++ MWd E md t0) → va_S (fun q : Nat => s.heap.size ≤ q) s.heap H locs → lv_has ls 4 [(0, .ref b), (1, .ref (ad 0)), (2, .ref (md 0)), (3, .int x3)] → W p l e room_1 s m #[Value.ref b] below meth c H locs 200 6980 (lw_Z below #[Value.ref b] s) (F0 m 997 ls []) := by
  intro H locs ls hPa hPb hD hS hl
  obtain ⟨hx, hb, hr, hml, hown, hts, hX0, hbl, hlocks, hgv⟩ := C0
  have hA : ∀ q : Nat, s.heap.size ≤ q → (fun q : Nat => s.heap.size ≤ q) q := fun _ h => h
  have hbA : ¬ (fun q : Nat => s.heap.size ≤ q) b := Nat.not_le.mpr hbl
  have hX : CX p s m #[Value.ref b] meth c code 4 ret RL := ⟨hx, hb, hr, hml, fun w hw => hts w (List.mem_filter.mp hw).1, hown, hlocks, wN.of (fun w hw => hts w (List.mem_append_right _ hw))⟩
  obtain ⟨r, s1, t1, h7, h8, hR1⟩ := hst s0 t0 hR
  refine lv_aload_n hx hb dL_law_997 rfl (lv_at hl 1 rfl) (W.pc 998 rfl ?_)
  refine kVl (st1 := [.int r]) hX (L7_game l E ad  s0 r s1 h7) B_X7_game w_3_216 hK hPa hPb hD hS hA (q0 := 0) (ci := 4) rfl rfl rfl rfl hl.1 rfl (Nat.le_of_ble_eq_true rfl) ⟨Nat.le_of_ble_eq_true rfl, Nat.le_of_ble_eq_true rfl⟩ ⟨Nat.le_of_ble_eq_true rfl, Nat.le_of_ble_eq_true rfl⟩ dL_law_998 rfl (fun H locs hPa hPb hD hS => W.pc 1001 rfl ?_)
  refine lv_aload_n hx hb dL_law_1001 rfl (lv_at hl 2 rfl) (W.pc 1002 rfl ?_)
  refine kVr (st1 := [.int r, .int r]) hX (L8_game l E md  t0 r t1 h8) B_X8_game w_5_166 hK hPa hPb hD hS hA (q0 := 0) (ci := 5) rfl rfl rfl rfl hl.1 rfl (Nat.le_of_ble_eq_true rfl) ⟨Nat.le_of_ble_eq_true rfl, Nat.le_of_ble_eq_true rfl⟩ ⟨Nat.le_of_ble_eq_true rfl, Nat.le_of_ble_eq_true rfl⟩ dL_law_1002 rfl (fun H locs hPa hPb hD hS => W.pc 1005 rfl ?_)
  refine lv_icmp_eq (tgt := 1216) hx hb dL_law_1005 (by decide) (fun _ => ?_) (fun q => absurd rfl q)
  exact K s1 t1 hR1 _ _ _ hPa hPb hD hS hl
set_option maxHeartbeats 4000000 in
set_option maxRecDepth 100000 in
theorem law_30 {p : Program} {l : Launch} {e : Env} {s : State} {m : MethodId} {below : List Frame} {meth : Method} {c : Code} {b L : Nat} {xs : Nat → Int32} {REL : CSt → MSt → Prop} (hst : ∀ (p1 p2 p3 : Int32) (s : CSt) (t : MSt), REL s t → ∃ (r : Int32) (s1 : CSt) (t1 : MSt), S7_chance p1 p2 p3 s = some (r, s1) ∧ S8_chance p1 p2 p3 t = some (r, t1) ∧ REL s1 t1) (C0 : lw_At p s m meth c b L xs) {x3 : Int32} (hin : ∀ j : Nat, j < 6 → vp_in (x3 + nI j) L) {E : wE} {Z : sE} (hK : wK E s) (hF : SF Z (fun q : Nat => s.heap.size ≤ q) s s.heap) {ad md : Nat → Nat} {s0 : CSt} {t0 : MSt} (hR : REL s0 t0) (K : ∀ (s1 : CSt) (t1 : MSt), REL s1 t1 → ∀ (H : Heap) (locs : List Loc) (ls : Array Slot), wP E (CW E ad s1) H → wP E (MWd E md t1) H → va_D (fun q : Nat => s.heap.size ≤ q) (CW E ad s1 ++ MWd E md t1) → va_S (fun q : Nat => s.heap.size ≤ q) s.heap H locs → lv_has ls 4 [(0, .ref b), (1, .ref (ad 0)), (2, .ref (md 0)), (3, .int x3)] → W p l e room_1 s m #[Value.ref b] below meth c H locs 200 6980 (lw_Z below #[Value.ref b] s) (F0 m 1216 ls [])) : ∀ (H : Heap) (locs : List Loc) (ls : Array Slot), wP E (CW E ad s0) H → wP E (MWd E md t0) H → va_D (fun q : Nat => s.heap.size ≤ q) (CW E ad s0 ++ MWd E md t0) → va_S (fun q : Nat => s.heap.size ≤ q) s.heap H locs → lv_has ls 4 [(0, .ref b), (1, .ref (ad 0)), (2, .ref (md 0)), (3, .int x3)] → W p l e room_1 s m #[Value.ref b] below meth c H locs 200 6980 (lw_Z below #[Value.ref b] s) (F0 m 1010 ls []) := by
  intro H locs ls hPa hPb hD hS hl
  obtain ⟨hx, hb, hr, hml, hown, hts, hX0, hbl, hlocks, hgv⟩ := C0
  have hA : ∀ q : Nat, s.heap.size ≤ q → (fun q : Nat => s.heap.size ≤ q) q := fun _ h => h
  have hbA : ¬ (fun q : Nat => s.heap.size ≤ q) b := Nat.not_le.mpr hbl
  have hX : CX p s m #[Value.ref b] meth c code 4 ret RL := ⟨hx, hb, hr, hml, fun w hw => hts w (List.mem_filter.mp hw).1, hown, hlocks, wN.of (fun w hw => hts w (List.mem_append_right _ hw))⟩
  obtain ⟨r, s1, t1, h7, h8, hR1⟩ := hst (xs (x3 + (1 : Int32)).toNatClampNeg) (xs (x3 + (2 : Int32)).toNatClampNeg) (xs (x3 + (3 : Int32)).toNatClampNeg) s0 t0 hR
  refine lv_aload_n hx hb dL_law_1010 rfl (lv_at hl 1 rfl) (W.pc 1011 rfl ?_)
  refine lv_aload_n hx hb dL_law_1011 rfl (lv_at hl 0 rfl) (W.pc 1012 rfl ?_)
  refine lv_iload_n hx hb dL_law_1012 rfl (lv_at hl 3 rfl) (W.pc 1013 rfl ?_)
  refine lv_iconst (v := (1 : Int32)) hx hb dL_law_1013 (by decide) (W.pc 1014 rfl ?_)
  refine lv_iadd hx hb dL_law_1014 (W.pc 1015 rfl ?_)
  refine va_sld hx hb hX0 hbl hbA hS (hin 1 (by decide)) dL_law_1015 (W.pc 1016 rfl ?_)
  refine lv_aload_n hx hb dL_law_1016 rfl (lv_at hl 0 rfl) (W.pc 1017 rfl ?_)
  refine lv_iload_n hx hb dL_law_1017 rfl (lv_at hl 3 rfl) (W.pc 1018 rfl ?_)
  refine lv_iconst (v := (2 : Int32)) hx hb dL_law_1018 (by decide) (W.pc 1019 rfl ?_)
  refine lv_iadd hx hb dL_law_1019 (W.pc 1020 rfl ?_)
  refine va_sld hx hb hX0 hbl hbA hS (hin 2 (by decide)) dL_law_1020 (W.pc 1021 rfl ?_)
  refine lv_aload_n hx hb dL_law_1021 rfl (lv_at hl 0 rfl) (W.pc 1022 rfl ?_)
  refine lv_iload_n hx hb dL_law_1022 rfl (lv_at hl 3 rfl) (W.pc 1023 rfl ?_)
  refine lv_iconst (v := (3 : Int32)) hx hb dL_law_1023 (by decide) (W.pc 1024 rfl ?_)
  refine lv_iadd hx hb dL_law_1024 (W.pc 1025 rfl ?_)
  refine va_sld hx hb hX0 hbl hbA hS (hin 3 (by decide)) dL_law_1025 (W.pc 1026 rfl ?_)
  refine kVl (st1 := [.int r]) hX (L7_chance l E ad (xs (x3 + (1 : Int32)).toNatClampNeg) (xs (x3 + (2 : Int32)).toNatClampNeg) (xs (x3 + (3 : Int32)).toNatClampNeg) s0 r s1 h7) B_X7_chance w_3_232 hK hPa hPb hD hS hA (q0 := 0) (ci := 4) rfl rfl rfl rfl hl.1 rfl (Nat.le_of_ble_eq_true rfl) ⟨Nat.le_of_ble_eq_true rfl, Nat.le_of_ble_eq_true rfl⟩ ⟨Nat.le_of_ble_eq_true rfl, Nat.le_of_ble_eq_true rfl⟩ dL_law_1026 rfl (fun H locs hPa hPb hD hS => W.pc 1029 rfl ?_)
  refine lv_aload_n hx hb dL_law_1029 rfl (lv_at hl 2 rfl) (W.pc 1030 rfl ?_)
  refine lv_aload_n hx hb dL_law_1030 rfl (lv_at hl 0 rfl) (W.pc 1031 rfl ?_)
  refine lv_iload_n hx hb dL_law_1031 rfl (lv_at hl 3 rfl) (W.pc 1032 rfl ?_)
  refine lv_iconst (v := (1 : Int32)) hx hb dL_law_1032 (by decide) (W.pc 1033 rfl ?_)
  refine lv_iadd hx hb dL_law_1033 (W.pc 1034 rfl ?_)
  refine va_sld hx hb hX0 hbl hbA hS (hin 1 (by decide)) dL_law_1034 (W.pc 1035 rfl ?_)
  refine lv_aload_n hx hb dL_law_1035 rfl (lv_at hl 0 rfl) (W.pc 1036 rfl ?_)
  refine lv_iload_n hx hb dL_law_1036 rfl (lv_at hl 3 rfl) (W.pc 1037 rfl ?_)
  refine lv_iconst (v := (2 : Int32)) hx hb dL_law_1037 (by decide) (W.pc 1038 rfl ?_)
  refine lv_iadd hx hb dL_law_1038 (W.pc 1039 rfl ?_)
  refine va_sld hx hb hX0 hbl hbA hS (hin 2 (by decide)) dL_law_1039 (W.pc 1040 rfl ?_)
  refine lv_aload_n hx hb dL_law_1040 rfl (lv_at hl 0 rfl) (W.pc 1041 rfl ?_)
  refine lv_iload_n hx hb dL_law_1041 rfl (lv_at hl 3 rfl) (W.pc 1042 rfl ?_)
  refine lv_iconst (v := (3 : Int32)) hx hb dL_law_1042 (by decide) (W.pc 1043 rfl ?_)
  refine lv_iadd hx hb dL_law_1043 (W.pc 1044 rfl ?_)
  refine va_sld hx hb hX0 hbl hbA hS (hin 3 (by decide)) dL_law_1044 (W.pc 1045 rfl ?_)
  refine kVr (st1 := [.int r, .int r]) hX (L8_chance l E md (xs (x3 + (1 : Int32)).toNatClampNeg) (xs (x3 + (2 : Int32)).toNatClampNeg) (xs (x3 + (3 : Int32)).toNatClampNeg) t0 r t1 h8) B_X8_chance w_5_174 hK hPa hPb hD hS hA (q0 := 0) (ci := 5) rfl rfl rfl rfl hl.1 rfl (Nat.le_of_ble_eq_true rfl) ⟨Nat.le_of_ble_eq_true rfl, Nat.le_of_ble_eq_true rfl⟩ ⟨Nat.le_of_ble_eq_true rfl, Nat.le_of_ble_eq_true rfl⟩ dL_law_1045 rfl (fun H locs hPa hPb hD hS => W.pc 1048 rfl ?_)
  refine lv_icmp_eq (tgt := 1216) hx hb dL_law_1048 (by decide) (fun _ => ?_) (fun q => absurd rfl q)
  exact K s1 t1 hR1 _ _ _ hPa hPb hD hS hl
set_option maxHeartbeats 4000000 in
set_option maxRecDepth 100000 in
theorem law_31 {p : Program} {l : Launch} {e : Env} {s : State} {m : MethodId} {below : List Frame} {meth : Method} {c : Code} {b L : Nat} {xs : Nat → Int32} {REL : CSt → MSt → Prop} (hst : ∀ (p1 p2 : Int32) (s : CSt) (t : MSt), REL s t → ∃ (r : Int32) (s1 : CSt) (t1 : MSt), S7_times p1 p2 s = some (r, s1) ∧ S8_times p1 p2 t = some (r, t1) ∧ REL s1 t1) (C0 : lw_At p s m meth c b L xs) {x3 : Int32} (hin : ∀ j : Nat, j < 6 → vp_in (x3 + nI j) L) {E : wE} {Z : sE} (hK : wK E s) (hF : SF Z (fun q : Nat => s.heap.size ≤ q) s s.heap) {ad md : Nat → Nat} {s0 : CSt} {t0 : MSt} (hR : REL s0 t0) (K : ∀ (s1 : CSt) (t1 : MSt), REL s1 t1 → ∀ (H : Heap) (locs : List Loc) (ls : Array Slot), wP E (CW E ad s1) H → wP E (MWd E md t1) H → va_D (fun q : Nat => s.heap.size ≤ q) (CW E ad s1 ++ MWd E md t1) → va_S (fun q : Nat => s.heap.size ≤ q) s.heap H locs → lv_has ls 4 [(0, .ref b), (1, .ref (ad 0)), (2, .ref (md 0)), (3, .int x3)] → W p l e room_1 s m #[Value.ref b] below meth c H locs 200 6980 (lw_Z below #[Value.ref b] s) (F0 m 1216 ls [])) : ∀ (H : Heap) (locs : List Loc) (ls : Array Slot), wP E (CW E ad s0) H → wP E (MWd E md t0) H → va_D (fun q : Nat => s.heap.size ≤ q) (CW E ad s0 ++ MWd E md t0) → va_S (fun q : Nat => s.heap.size ≤ q) s.heap H locs → lv_has ls 4 [(0, .ref b), (1, .ref (ad 0)), (2, .ref (md 0)), (3, .int x3)] → W p l e room_1 s m #[Value.ref b] below meth c H locs 200 6980 (lw_Z below #[Value.ref b] s) (F0 m 1053 ls []) := by
  intro H locs ls hPa hPb hD hS hl
  obtain ⟨hx, hb, hr, hml, hown, hts, hX0, hbl, hlocks, hgv⟩ := C0
  have hA : ∀ q : Nat, s.heap.size ≤ q → (fun q : Nat => s.heap.size ≤ q) q := fun _ h => h
  have hbA : ¬ (fun q : Nat => s.heap.size ≤ q) b := Nat.not_le.mpr hbl
  have hX : CX p s m #[Value.ref b] meth c code 4 ret RL := ⟨hx, hb, hr, hml, fun w hw => hts w (List.mem_filter.mp hw).1, hown, hlocks, wN.of (fun w hw => hts w (List.mem_append_right _ hw))⟩
  obtain ⟨r, s1, t1, h7, h8, hR1⟩ := hst (xs (x3 + (1 : Int32)).toNatClampNeg) (xs (x3 + (2 : Int32)).toNatClampNeg) s0 t0 hR
  refine lv_aload_n hx hb dL_law_1053 rfl (lv_at hl 1 rfl) (W.pc 1054 rfl ?_)
  refine lv_aload_n hx hb dL_law_1054 rfl (lv_at hl 0 rfl) (W.pc 1055 rfl ?_)
  refine lv_iload_n hx hb dL_law_1055 rfl (lv_at hl 3 rfl) (W.pc 1056 rfl ?_)
  refine lv_iconst (v := (1 : Int32)) hx hb dL_law_1056 (by decide) (W.pc 1057 rfl ?_)
  refine lv_iadd hx hb dL_law_1057 (W.pc 1058 rfl ?_)
  refine va_sld hx hb hX0 hbl hbA hS (hin 1 (by decide)) dL_law_1058 (W.pc 1059 rfl ?_)
  refine lv_aload_n hx hb dL_law_1059 rfl (lv_at hl 0 rfl) (W.pc 1060 rfl ?_)
  refine lv_iload_n hx hb dL_law_1060 rfl (lv_at hl 3 rfl) (W.pc 1061 rfl ?_)
  refine lv_iconst (v := (2 : Int32)) hx hb dL_law_1061 (by decide) (W.pc 1062 rfl ?_)
  refine lv_iadd hx hb dL_law_1062 (W.pc 1063 rfl ?_)
  refine va_sld hx hb hX0 hbl hbA hS (hin 2 (by decide)) dL_law_1063 (W.pc 1064 rfl ?_)
  refine kVl (st1 := [.int r]) hX (L7_times l E ad (xs (x3 + (1 : Int32)).toNatClampNeg) (xs (x3 + (2 : Int32)).toNatClampNeg) s0 r s1 h7) B_X7_times w_4_12 hK hPa hPb hD hS hA (q0 := 0) (ci := 4) rfl rfl rfl rfl hl.1 rfl (Nat.le_of_ble_eq_true rfl) ⟨Nat.le_of_ble_eq_true rfl, Nat.le_of_ble_eq_true rfl⟩ ⟨Nat.le_of_ble_eq_true rfl, Nat.le_of_ble_eq_true rfl⟩ dL_law_1064 rfl (fun H locs hPa hPb hD hS => W.pc 1067 rfl ?_)
  refine lv_aload_n hx hb dL_law_1067 rfl (lv_at hl 2 rfl) (W.pc 1068 rfl ?_)
  refine lv_aload_n hx hb dL_law_1068 rfl (lv_at hl 0 rfl) (W.pc 1069 rfl ?_)
  refine lv_iload_n hx hb dL_law_1069 rfl (lv_at hl 3 rfl) (W.pc 1070 rfl ?_)
  refine lv_iconst (v := (1 : Int32)) hx hb dL_law_1070 (by decide) (W.pc 1071 rfl ?_)
  refine lv_iadd hx hb dL_law_1071 (W.pc 1072 rfl ?_)
  refine va_sld hx hb hX0 hbl hbA hS (hin 1 (by decide)) dL_law_1072 (W.pc 1073 rfl ?_)
  refine lv_aload_n hx hb dL_law_1073 rfl (lv_at hl 0 rfl) (W.pc 1074 rfl ?_)
  refine lv_iload_n hx hb dL_law_1074 rfl (lv_at hl 3 rfl) (W.pc 1075 rfl ?_)
  refine lv_iconst (v := (2 : Int32)) hx hb dL_law_1075 (by decide) (W.pc 1076 rfl ?_)
  refine lv_iadd hx hb dL_law_1076 (W.pc 1077 rfl ?_)
  refine va_sld hx hb hX0 hbl hbA hS (hin 2 (by decide)) dL_law_1077 (W.pc 1078 rfl ?_)
  refine kVr (st1 := [.int r, .int r]) hX (L8_times l E md (xs (x3 + (1 : Int32)).toNatClampNeg) (xs (x3 + (2 : Int32)).toNatClampNeg) t0 r t1 h8) B_X8_times w_5_179 hK hPa hPb hD hS hA (q0 := 0) (ci := 5) rfl rfl rfl rfl hl.1 rfl (Nat.le_of_ble_eq_true rfl) ⟨Nat.le_of_ble_eq_true rfl, Nat.le_of_ble_eq_true rfl⟩ ⟨Nat.le_of_ble_eq_true rfl, Nat.le_of_ble_eq_true rfl⟩ dL_law_1078 rfl (fun H locs hPa hPb hD hS => W.pc 1081 rfl ?_)
  refine lv_icmp_eq (tgt := 1216) hx hb dL_law_1081 (by decide) (fun _ => ?_) (fun q => absurd rfl q)
  exact K s1 t1 hR1 _ _ _ hPa hPb hD hS hl
set_option maxHeartbeats 4000000 in
set_option maxRecDepth 100000 in
theorem law_32 {p : Program} {l : Launch} {e : Env} {s : State} {m : MethodId} {below : List Frame} {meth : Method} {c : Code} {b L : Nat} {xs : Nat → Int32} {REL : CSt → MSt → Prop} (hst : ∀ (p1 : Int32) (s : CSt) (t : MSt), REL s t → ∃ (r : Int64) (s1 : CSt) (t1 : MSt), S7_part p1 s = some (r, s1) ∧ S8_part p1 t = some (r, t1) ∧ REL s1 t1) (C0 : lw_At p s m meth c b L xs) {x3 : Int32} (hin : ∀ j : Nat, j < 6 → vp_in (x3 + nI j) L) {E : wE} {Z : sE} (hK : wK E s) (hF : SF Z (fun q : Nat => s.heap.size ≤ q) s s.heap) {ad md : Nat → Nat} {s0 : CSt} {t0 : MSt} (hR : REL s0 t0) (K : ∀ (s1 : CSt) (t1 : MSt), REL s1 t1 → ∀ (H : Heap) (locs : List Loc) (ls : Array Slot), wP E (CW E ad s1) H → wP E (MWd E md t1) H → va_D (fun q : Nat => s.heap.size ≤ q) (CW E ad s1 ++ MWd E md t1) → va_S (fun q : Nat => s.heap.size ≤ q) s.heap H locs → lv_has ls 4 [(0, .ref b), (1, .ref (ad 0)), (2, .ref (md 0)), (3, .int x3)] → W p l e room_1 s m #[Value.ref b] below meth c H locs 200 6980 (lw_Z below #[Value.ref b] s) (F0 m 1216 ls [])) : ∀ (H : Heap) (locs : List Loc) (ls : Array Slot), wP E (CW E ad s0) H → wP E (MWd E md t0) H → va_D (fun q : Nat => s.heap.size ≤ q) (CW E ad s0 ++ MWd E md t0) → va_S (fun q : Nat => s.heap.size ≤ q) s.heap H locs → lv_has ls 4 [(0, .ref b), (1, .ref (ad 0)), (2, .ref (md 0)), (3, .int x3)] → W p l e room_1 s m #[Value.ref b] below meth c H locs 200 6980 (lw_Z below #[Value.ref b] s) (F0 m 1086 ls []) := by
  intro H locs ls hPa hPb hD hS hl
  obtain ⟨hx, hb, hr, hml, hown, hts, hX0, hbl, hlocks, hgv⟩ := C0
  have hA : ∀ q : Nat, s.heap.size ≤ q → (fun q : Nat => s.heap.size ≤ q) q := fun _ h => h
  have hbA : ¬ (fun q : Nat => s.heap.size ≤ q) b := Nat.not_le.mpr hbl
  have hX : CX p s m #[Value.ref b] meth c code 4 ret RL := ⟨hx, hb, hr, hml, fun w hw => hts w (List.mem_filter.mp hw).1, hown, hlocks, wN.of (fun w hw => hts w (List.mem_append_right _ hw))⟩
  obtain ⟨r, s1, t1, h7, h8, hR1⟩ := hst (xs (x3 + (1 : Int32)).toNatClampNeg) s0 t0 hR
  refine lv_aload_n hx hb dL_law_1086 rfl (lv_at hl 1 rfl) (W.pc 1087 rfl ?_)
  refine lv_aload_n hx hb dL_law_1087 rfl (lv_at hl 0 rfl) (W.pc 1088 rfl ?_)
  refine lv_iload_n hx hb dL_law_1088 rfl (lv_at hl 3 rfl) (W.pc 1089 rfl ?_)
  refine lv_iconst (v := (1 : Int32)) hx hb dL_law_1089 (by decide) (W.pc 1090 rfl ?_)
  refine lv_iadd hx hb dL_law_1090 (W.pc 1091 rfl ?_)
  refine va_sld hx hb hX0 hbl hbA hS (hin 1 (by decide)) dL_law_1091 (W.pc 1092 rfl ?_)
  refine kVl (st1 := [.long r]) hX (L7_part l E ad (xs (x3 + (1 : Int32)).toNatClampNeg) s0 r s1 h7) B_X7_part w_4_22 hK hPa hPb hD hS hA (q0 := 0) (ci := 4) rfl rfl rfl rfl hl.1 rfl (Nat.le_of_ble_eq_true rfl) ⟨Nat.le_of_ble_eq_true rfl, Nat.le_of_ble_eq_true rfl⟩ ⟨Nat.le_of_ble_eq_true rfl, Nat.le_of_ble_eq_true rfl⟩ dL_law_1092 rfl (fun H locs hPa hPb hD hS => W.pc 1095 rfl ?_)
  refine lv_aload_n hx hb dL_law_1095 rfl (lv_at hl 2 rfl) (W.pc 1096 rfl ?_)
  refine lv_aload_n hx hb dL_law_1096 rfl (lv_at hl 0 rfl) (W.pc 1097 rfl ?_)
  refine lv_iload_n hx hb dL_law_1097 rfl (lv_at hl 3 rfl) (W.pc 1098 rfl ?_)
  refine lv_iconst (v := (1 : Int32)) hx hb dL_law_1098 (by decide) (W.pc 1099 rfl ?_)
  refine lv_iadd hx hb dL_law_1099 (W.pc 1100 rfl ?_)
  refine va_sld hx hb hX0 hbl hbA hS (hin 1 (by decide)) dL_law_1100 (W.pc 1101 rfl ?_)
  refine kVr (st1 := [.long r, .long r]) hX (L8_part l E md (xs (x3 + (1 : Int32)).toNatClampNeg) t0 r t1 h8) B_X8_part w_5_189 hK hPa hPb hD hS hA (q0 := 0) (ci := 5) rfl rfl rfl rfl hl.1 rfl (Nat.le_of_ble_eq_true rfl) ⟨Nat.le_of_ble_eq_true rfl, Nat.le_of_ble_eq_true rfl⟩ ⟨Nat.le_of_ble_eq_true rfl, Nat.le_of_ble_eq_true rfl⟩ dL_law_1101 rfl (fun H locs hPa hPb hD hS => W.pc 1104 rfl ?_)
  refine W.lcmp hx hb dL_law_1104 (W.pc 1105 rfl ?_)
  refine lv_if_eq (tgt := 1216) hx hb dL_law_1105 (by decide) (fun _ => ?_) (fun q => absurd (lg_self r) q)
  exact K s1 t1 hR1 _ _ _ hPa hPb hD hS hl
set_option maxHeartbeats 4000000 in
set_option maxRecDepth 100000 in
theorem law_33 {p : Program} {l : Launch} {e : Env} {s : State} {m : MethodId} {below : List Frame} {meth : Method} {c : Code} {b L : Nat} {xs : Nat → Int32} {REL : CSt → MSt → Prop} (hst : ∀ (p1 : Int32) (s : CSt) (t : MSt), REL s t → ∃ (r : Int32) (s1 : CSt) (t1 : MSt), S7_image p1 s = some (r, s1) ∧ S8_image p1 t = some (r, t1) ∧ REL s1 t1) (C0 : lw_At p s m meth c b L xs) {x3 : Int32} (hin : ∀ j : Nat, j < 6 → vp_in (x3 + nI j) L) {E : wE} {Z : sE} (hK : wK E s) (hF : SF Z (fun q : Nat => s.heap.size ≤ q) s s.heap) {ad md : Nat → Nat} {s0 : CSt} {t0 : MSt} (hR : REL s0 t0) (K : ∀ (s1 : CSt) (t1 : MSt), REL s1 t1 → ∀ (H : Heap) (locs : List Loc) (ls : Array Slot), wP E (CW E ad s1) H → wP E (MWd E md t1) H → va_D (fun q : Nat => s.heap.size ≤ q) (CW E ad s1 ++ MWd E md t1) → va_S (fun q : Nat => s.heap.size ≤ q) s.heap H locs → lv_has ls 4 [(0, .ref b), (1, .ref (ad 0)), (2, .ref (md 0)), (3, .int x3)] → W p l e room_1 s m #[Value.ref b] below meth c H locs 200 6980 (lw_Z below #[Value.ref b] s) (F0 m 1216 ls [])) : ∀ (H : Heap) (locs : List Loc) (ls : Array Slot), wP E (CW E ad s0) H → wP E (MWd E md t0) H → va_D (fun q : Nat => s.heap.size ≤ q) (CW E ad s0 ++ MWd E md t0) → va_S (fun q : Nat => s.heap.size ≤ q) s.heap H locs → lv_has ls 4 [(0, .ref b), (1, .ref (ad 0)), (2, .ref (md 0)), (3, .int x3)] → W p l e room_1 s m #[Value.ref b] below meth c H locs 200 6980 (lw_Z below #[Value.ref b] s) (F0 m 1110 ls []) := by
  intro H locs ls hPa hPb hD hS hl
  obtain ⟨hx, hb, hr, hml, hown, hts, hX0, hbl, hlocks, hgv⟩ := C0
  have hA : ∀ q : Nat, s.heap.size ≤ q → (fun q : Nat => s.heap.size ≤ q) q := fun _ h => h
  have hbA : ¬ (fun q : Nat => s.heap.size ≤ q) b := Nat.not_le.mpr hbl
  have hX : CX p s m #[Value.ref b] meth c code 4 ret RL := ⟨hx, hb, hr, hml, fun w hw => hts w (List.mem_filter.mp hw).1, hown, hlocks, wN.of (fun w hw => hts w (List.mem_append_right _ hw))⟩
  obtain ⟨r, s1, t1, h7, h8, hR1⟩ := hst (xs (x3 + (1 : Int32)).toNatClampNeg) s0 t0 hR
  refine lv_aload_n hx hb dL_law_1110 rfl (lv_at hl 1 rfl) (W.pc 1111 rfl ?_)
  refine lv_aload_n hx hb dL_law_1111 rfl (lv_at hl 0 rfl) (W.pc 1112 rfl ?_)
  refine lv_iload_n hx hb dL_law_1112 rfl (lv_at hl 3 rfl) (W.pc 1113 rfl ?_)
  refine lv_iconst (v := (1 : Int32)) hx hb dL_law_1113 (by decide) (W.pc 1114 rfl ?_)
  refine lv_iadd hx hb dL_law_1114 (W.pc 1115 rfl ?_)
  refine va_sld hx hb hX0 hbl hbA hS (hin 1 (by decide)) dL_law_1115 (W.pc 1116 rfl ?_)
  refine kVl (st1 := [.int r]) hX (L7_image l E ad (xs (x3 + (1 : Int32)).toNatClampNeg) s0 r s1 h7) B_X7_image w_4_26 hK hPa hPb hD hS hA (q0 := 0) (ci := 4) rfl rfl rfl rfl hl.1 rfl (Nat.le_of_ble_eq_true rfl) ⟨Nat.le_of_ble_eq_true rfl, Nat.le_of_ble_eq_true rfl⟩ ⟨Nat.le_of_ble_eq_true rfl, Nat.le_of_ble_eq_true rfl⟩ dL_law_1116 rfl (fun H locs hPa hPb hD hS => W.pc 1119 rfl ?_)
  refine lv_aload_n hx hb dL_law_1119 rfl (lv_at hl 2 rfl) (W.pc 1120 rfl ?_)
  refine lv_aload_n hx hb dL_law_1120 rfl (lv_at hl 0 rfl) (W.pc 1121 rfl ?_)
  refine lv_iload_n hx hb dL_law_1121 rfl (lv_at hl 3 rfl) (W.pc 1122 rfl ?_)
  refine lv_iconst (v := (1 : Int32)) hx hb dL_law_1122 (by decide) (W.pc 1123 rfl ?_)
  refine lv_iadd hx hb dL_law_1123 (W.pc 1124 rfl ?_)
  refine va_sld hx hb hX0 hbl hbA hS (hin 1 (by decide)) dL_law_1124 (W.pc 1125 rfl ?_)
  refine kVr (st1 := [.int r, .int r]) hX (L8_image l E md (xs (x3 + (1 : Int32)).toNatClampNeg) t0 r t1 h8) B_X8_image w_5_193 hK hPa hPb hD hS hA (q0 := 0) (ci := 5) rfl rfl rfl rfl hl.1 rfl (Nat.le_of_ble_eq_true rfl) ⟨Nat.le_of_ble_eq_true rfl, Nat.le_of_ble_eq_true rfl⟩ ⟨Nat.le_of_ble_eq_true rfl, Nat.le_of_ble_eq_true rfl⟩ dL_law_1125 rfl (fun H locs hPa hPb hD hS => W.pc 1128 rfl ?_)
  refine lv_icmp_eq (tgt := 1216) hx hb dL_law_1128 (by decide) (fun _ => ?_) (fun q => absurd rfl q)
  exact K s1 t1 hR1 _ _ _ hPa hPb hD hS hl
set_option maxHeartbeats 4000000 in
set_option maxRecDepth 100000 in
theorem law_34 {p : Program} {l : Launch} {e : Env} {s : State} {m : MethodId} {below : List Frame} {meth : Method} {c : Code} {b L : Nat} {xs : Nat → Int32} {REL : CSt → MSt → Prop} (hst : ∀ (p1 : Int32) (s : CSt) (t : MSt), REL s t → ∃ (r : Int32) (s1 : CSt) (t1 : MSt), S7_from p1 s = some (r, s1) ∧ S8_from p1 t = some (r, t1) ∧ REL s1 t1) (C0 : lw_At p s m meth c b L xs) {x3 : Int32} (hin : ∀ j : Nat, j < 6 → vp_in (x3 + nI j) L) {E : wE} {Z : sE} (hK : wK E s) (hF : SF Z (fun q : Nat => s.heap.size ≤ q) s s.heap) {ad md : Nat → Nat} {s0 : CSt} {t0 : MSt} (hR : REL s0 t0) (K : ∀ (s1 : CSt) (t1 : MSt), REL s1 t1 → ∀ (H : Heap) (locs : List Loc) (ls : Array Slot), wP E (CW E ad s1) H → wP E (MWd E md t1) H → va_D (fun q : Nat => s.heap.size ≤ q) (CW E ad s1 ++ MWd E md t1) → va_S (fun q : Nat => s.heap.size ≤ q) s.heap H locs → lv_has ls 4 [(0, .ref b), (1, .ref (ad 0)), (2, .ref (md 0)), (3, .int x3)] → W p l e room_1 s m #[Value.ref b] below meth c H locs 200 6980 (lw_Z below #[Value.ref b] s) (F0 m 1216 ls [])) : ∀ (H : Heap) (locs : List Loc) (ls : Array Slot), wP E (CW E ad s0) H → wP E (MWd E md t0) H → va_D (fun q : Nat => s.heap.size ≤ q) (CW E ad s0 ++ MWd E md t0) → va_S (fun q : Nat => s.heap.size ≤ q) s.heap H locs → lv_has ls 4 [(0, .ref b), (1, .ref (ad 0)), (2, .ref (md 0)), (3, .int x3)] → W p l e room_1 s m #[Value.ref b] below meth c H locs 200 6980 (lw_Z below #[Value.ref b] s) (F0 m 1133 ls []) := by
  intro H locs ls hPa hPb hD hS hl
  obtain ⟨hx, hb, hr, hml, hown, hts, hX0, hbl, hlocks, hgv⟩ := C0
  have hA : ∀ q : Nat, s.heap.size ≤ q → (fun q : Nat => s.heap.size ≤ q) q := fun _ h => h
  have hbA : ¬ (fun q : Nat => s.heap.size ≤ q) b := Nat.not_le.mpr hbl
  have hX : CX p s m #[Value.ref b] meth c code 4 ret RL := ⟨hx, hb, hr, hml, fun w hw => hts w (List.mem_filter.mp hw).1, hown, hlocks, wN.of (fun w hw => hts w (List.mem_append_right _ hw))⟩
  obtain ⟨r, s1, t1, h7, h8, hR1⟩ := hst (xs (x3 + (1 : Int32)).toNatClampNeg) s0 t0 hR
  refine lv_aload_n hx hb dL_law_1133 rfl (lv_at hl 1 rfl) (W.pc 1134 rfl ?_)
  refine lv_aload_n hx hb dL_law_1134 rfl (lv_at hl 0 rfl) (W.pc 1135 rfl ?_)
  refine lv_iload_n hx hb dL_law_1135 rfl (lv_at hl 3 rfl) (W.pc 1136 rfl ?_)
  refine lv_iconst (v := (1 : Int32)) hx hb dL_law_1136 (by decide) (W.pc 1137 rfl ?_)
  refine lv_iadd hx hb dL_law_1137 (W.pc 1138 rfl ?_)
  refine va_sld hx hb hX0 hbl hbA hS (hin 1 (by decide)) dL_law_1138 (W.pc 1139 rfl ?_)
  refine kVl (st1 := [.int r]) hX (L7_from l E ad (xs (x3 + (1 : Int32)).toNatClampNeg) s0 r s1 h7) B_X7_from w_4_34 hK hPa hPb hD hS hA (q0 := 0) (ci := 4) rfl rfl rfl rfl hl.1 rfl (Nat.le_of_ble_eq_true rfl) ⟨Nat.le_of_ble_eq_true rfl, Nat.le_of_ble_eq_true rfl⟩ ⟨Nat.le_of_ble_eq_true rfl, Nat.le_of_ble_eq_true rfl⟩ dL_law_1139 rfl (fun H locs hPa hPb hD hS => W.pc 1142 rfl ?_)
  refine lv_aload_n hx hb dL_law_1142 rfl (lv_at hl 2 rfl) (W.pc 1143 rfl ?_)
  refine lv_aload_n hx hb dL_law_1143 rfl (lv_at hl 0 rfl) (W.pc 1144 rfl ?_)
  refine lv_iload_n hx hb dL_law_1144 rfl (lv_at hl 3 rfl) (W.pc 1145 rfl ?_)
  refine lv_iconst (v := (1 : Int32)) hx hb dL_law_1145 (by decide) (W.pc 1146 rfl ?_)
  refine lv_iadd hx hb dL_law_1146 (W.pc 1147 rfl ?_)
  refine va_sld hx hb hX0 hbl hbA hS (hin 1 (by decide)) dL_law_1147 (W.pc 1148 rfl ?_)
  refine kVr (st1 := [.int r, .int r]) hX (L8_from l E md (xs (x3 + (1 : Int32)).toNatClampNeg) t0 r t1 h8) B_X8_from w_5_197 hK hPa hPb hD hS hA (q0 := 0) (ci := 5) rfl rfl rfl rfl hl.1 rfl (Nat.le_of_ble_eq_true rfl) ⟨Nat.le_of_ble_eq_true rfl, Nat.le_of_ble_eq_true rfl⟩ ⟨Nat.le_of_ble_eq_true rfl, Nat.le_of_ble_eq_true rfl⟩ dL_law_1148 rfl (fun H locs hPa hPb hD hS => W.pc 1151 rfl ?_)
  refine lv_icmp_eq (tgt := 1216) hx hb dL_law_1151 (by decide) (fun _ => ?_) (fun q => absurd rfl q)
  exact K s1 t1 hR1 _ _ _ hPa hPb hD hS hl
set_option maxHeartbeats 4000000 in
set_option maxRecDepth 100000 in
theorem law_35 {p : Program} {l : Launch} {e : Env} {s : State} {m : MethodId} {below : List Frame} {meth : Method} {c : Code} {b L : Nat} {xs : Nat → Int32} {REL : CSt → MSt → Prop} (hst : ∀ (p1 : Int32) (s : CSt) (t : MSt), REL s t → ∃ (r : Int32) (s1 : CSt) (t1 : MSt), S7_status p1 s = some (r, s1) ∧ S8_status p1 t = some (r, t1) ∧ REL s1 t1) (C0 : lw_At p s m meth c b L xs) {x3 : Int32} (hin : ∀ j : Nat, j < 6 → vp_in (x3 + nI j) L) {E : wE} {Z : sE} (hK : wK E s) (hF : SF Z (fun q : Nat => s.heap.size ≤ q) s s.heap) {ad md : Nat → Nat} {s0 : CSt} {t0 : MSt} (hR : REL s0 t0) (K : ∀ (s1 : CSt) (t1 : MSt), REL s1 t1 → ∀ (H : Heap) (locs : List Loc) (ls : Array Slot), wP E (CW E ad s1) H → wP E (MWd E md t1) H → va_D (fun q : Nat => s.heap.size ≤ q) (CW E ad s1 ++ MWd E md t1) → va_S (fun q : Nat => s.heap.size ≤ q) s.heap H locs → lv_has ls 4 [(0, .ref b), (1, .ref (ad 0)), (2, .ref (md 0)), (3, .int x3)] → W p l e room_1 s m #[Value.ref b] below meth c H locs 200 6980 (lw_Z below #[Value.ref b] s) (F0 m 1216 ls [])) : ∀ (H : Heap) (locs : List Loc) (ls : Array Slot), wP E (CW E ad s0) H → wP E (MWd E md t0) H → va_D (fun q : Nat => s.heap.size ≤ q) (CW E ad s0 ++ MWd E md t0) → va_S (fun q : Nat => s.heap.size ≤ q) s.heap H locs → lv_has ls 4 [(0, .ref b), (1, .ref (ad 0)), (2, .ref (md 0)), (3, .int x3)] → W p l e room_1 s m #[Value.ref b] below meth c H locs 200 6980 (lw_Z below #[Value.ref b] s) (F0 m 1156 ls []) := by
  intro H locs ls hPa hPb hD hS hl
  obtain ⟨hx, hb, hr, hml, hown, hts, hX0, hbl, hlocks, hgv⟩ := C0
  have hA : ∀ q : Nat, s.heap.size ≤ q → (fun q : Nat => s.heap.size ≤ q) q := fun _ h => h
  have hbA : ¬ (fun q : Nat => s.heap.size ≤ q) b := Nat.not_le.mpr hbl
  have hX : CX p s m #[Value.ref b] meth c code 4 ret RL := ⟨hx, hb, hr, hml, fun w hw => hts w (List.mem_filter.mp hw).1, hown, hlocks, wN.of (fun w hw => hts w (List.mem_append_right _ hw))⟩
  obtain ⟨r, s1, t1, h7, h8, hR1⟩ := hst (xs (x3 + (1 : Int32)).toNatClampNeg) s0 t0 hR
  refine lv_aload_n hx hb dL_law_1156 rfl (lv_at hl 1 rfl) (W.pc 1157 rfl ?_)
  refine lv_aload_n hx hb dL_law_1157 rfl (lv_at hl 0 rfl) (W.pc 1158 rfl ?_)
  refine lv_iload_n hx hb dL_law_1158 rfl (lv_at hl 3 rfl) (W.pc 1159 rfl ?_)
  refine lv_iconst (v := (1 : Int32)) hx hb dL_law_1159 (by decide) (W.pc 1160 rfl ?_)
  refine lv_iadd hx hb dL_law_1160 (W.pc 1161 rfl ?_)
  refine va_sld hx hb hX0 hbl hbA hS (hin 1 (by decide)) dL_law_1161 (W.pc 1162 rfl ?_)
  refine kVl (st1 := [.int r]) hX (L7_status l E ad (xs (x3 + (1 : Int32)).toNatClampNeg) s0 r s1 h7) B_X7_status w_4_38 hK hPa hPb hD hS hA (q0 := 0) (ci := 4) rfl rfl rfl rfl hl.1 rfl (Nat.le_of_ble_eq_true rfl) ⟨Nat.le_of_ble_eq_true rfl, Nat.le_of_ble_eq_true rfl⟩ ⟨Nat.le_of_ble_eq_true rfl, Nat.le_of_ble_eq_true rfl⟩ dL_law_1162 rfl (fun H locs hPa hPb hD hS => W.pc 1165 rfl ?_)
  refine lv_aload_n hx hb dL_law_1165 rfl (lv_at hl 2 rfl) (W.pc 1166 rfl ?_)
  refine lv_aload_n hx hb dL_law_1166 rfl (lv_at hl 0 rfl) (W.pc 1167 rfl ?_)
  refine lv_iload_n hx hb dL_law_1167 rfl (lv_at hl 3 rfl) (W.pc 1168 rfl ?_)
  refine lv_iconst (v := (1 : Int32)) hx hb dL_law_1168 (by decide) (W.pc 1169 rfl ?_)
  refine lv_iadd hx hb dL_law_1169 (W.pc 1170 rfl ?_)
  refine va_sld hx hb hX0 hbl hbA hS (hin 1 (by decide)) dL_law_1170 (W.pc 1171 rfl ?_)
  refine kVr (st1 := [.int r, .int r]) hX (L8_status l E md (xs (x3 + (1 : Int32)).toNatClampNeg) t0 r t1 h8) B_X8_status w_5_201 hK hPa hPb hD hS hA (q0 := 0) (ci := 5) rfl rfl rfl rfl hl.1 rfl (Nat.le_of_ble_eq_true rfl) ⟨Nat.le_of_ble_eq_true rfl, Nat.le_of_ble_eq_true rfl⟩ ⟨Nat.le_of_ble_eq_true rfl, Nat.le_of_ble_eq_true rfl⟩ dL_law_1171 rfl (fun H locs hPa hPb hD hS => W.pc 1174 rfl ?_)
  refine lv_icmp_eq (tgt := 1216) hx hb dL_law_1174 (by decide) (fun _ => ?_) (fun q => absurd rfl q)
  exact K s1 t1 hR1 _ _ _ hPa hPb hD hS hl
set_option maxHeartbeats 4000000 in
set_option maxRecDepth 100000 in
theorem law_36 {p : Program} {l : Launch} {e : Env} {s : State} {m : MethodId} {below : List Frame} {meth : Method} {c : Code} {b L : Nat} {xs : Nat → Int32} {REL : CSt → MSt → Prop} (hst : ∀ (p1 : Int32) (s : CSt) (t : MSt), REL s t → ∃ (r : Int32) (s1 : CSt) (t1 : MSt), S7_count p1 s = some (r, s1) ∧ S8_count p1 t = some (r, t1) ∧ REL s1 t1) (C0 : lw_At p s m meth c b L xs) {x3 : Int32} (hin : ∀ j : Nat, j < 6 → vp_in (x3 + nI j) L) {E : wE} {Z : sE} (hK : wK E s) (hF : SF Z (fun q : Nat => s.heap.size ≤ q) s s.heap) {ad md : Nat → Nat} {s0 : CSt} {t0 : MSt} (hR : REL s0 t0) (K : ∀ (s1 : CSt) (t1 : MSt), REL s1 t1 → ∀ (H : Heap) (locs : List Loc) (ls : Array Slot), wP E (CW E ad s1) H → wP E (MWd E md t1) H → va_D (fun q : Nat => s.heap.size ≤ q) (CW E ad s1 ++ MWd E md t1) → va_S (fun q : Nat => s.heap.size ≤ q) s.heap H locs → lv_has ls 4 [(0, .ref b), (1, .ref (ad 0)), (2, .ref (md 0)), (3, .int x3)] → W p l e room_1 s m #[Value.ref b] below meth c H locs 200 6980 (lw_Z below #[Value.ref b] s) (F0 m 1216 ls [])) : ∀ (H : Heap) (locs : List Loc) (ls : Array Slot), wP E (CW E ad s0) H → wP E (MWd E md t0) H → va_D (fun q : Nat => s.heap.size ≤ q) (CW E ad s0 ++ MWd E md t0) → va_S (fun q : Nat => s.heap.size ≤ q) s.heap H locs → lv_has ls 4 [(0, .ref b), (1, .ref (ad 0)), (2, .ref (md 0)), (3, .int x3)] → W p l e room_1 s m #[Value.ref b] below meth c H locs 200 6980 (lw_Z below #[Value.ref b] s) (F0 m 1179 ls []) := by
  intro H locs ls hPa hPb hD hS hl
  obtain ⟨hx, hb, hr, hml, hown, hts, hX0, hbl, hlocks, hgv⟩ := C0
  have hA : ∀ q : Nat, s.heap.size ≤ q → (fun q : Nat => s.heap.size ≤ q) q := fun _ h => h
  have hbA : ¬ (fun q : Nat => s.heap.size ≤ q) b := Nat.not_le.mpr hbl
  have hX : CX p s m #[Value.ref b] meth c code 4 ret RL := ⟨hx, hb, hr, hml, fun w hw => hts w (List.mem_filter.mp hw).1, hown, hlocks, wN.of (fun w hw => hts w (List.mem_append_right _ hw))⟩
  obtain ⟨r, s1, t1, h7, h8, hR1⟩ := hst (xs (x3 + (1 : Int32)).toNatClampNeg) s0 t0 hR
  refine lv_aload_n hx hb dL_law_1179 rfl (lv_at hl 1 rfl) (W.pc 1180 rfl ?_)
  refine lv_aload_n hx hb dL_law_1180 rfl (lv_at hl 0 rfl) (W.pc 1181 rfl ?_)
  refine lv_iload_n hx hb dL_law_1181 rfl (lv_at hl 3 rfl) (W.pc 1182 rfl ?_)
  refine lv_iconst (v := (1 : Int32)) hx hb dL_law_1182 (by decide) (W.pc 1183 rfl ?_)
  refine lv_iadd hx hb dL_law_1183 (W.pc 1184 rfl ?_)
  refine va_sld hx hb hX0 hbl hbA hS (hin 1 (by decide)) dL_law_1184 (W.pc 1185 rfl ?_)
  refine kVl (st1 := [.int r]) hX (L7_count l E ad (xs (x3 + (1 : Int32)).toNatClampNeg) s0 r s1 h7) B_X7_count w_4_42 hK hPa hPb hD hS hA (q0 := 0) (ci := 4) rfl rfl rfl rfl hl.1 rfl (Nat.le_of_ble_eq_true rfl) ⟨Nat.le_of_ble_eq_true rfl, Nat.le_of_ble_eq_true rfl⟩ ⟨Nat.le_of_ble_eq_true rfl, Nat.le_of_ble_eq_true rfl⟩ dL_law_1185 rfl (fun H locs hPa hPb hD hS => W.pc 1188 rfl ?_)
  refine lv_aload_n hx hb dL_law_1188 rfl (lv_at hl 2 rfl) (W.pc 1189 rfl ?_)
  refine lv_aload_n hx hb dL_law_1189 rfl (lv_at hl 0 rfl) (W.pc 1190 rfl ?_)
  refine lv_iload_n hx hb dL_law_1190 rfl (lv_at hl 3 rfl) (W.pc 1191 rfl ?_)
  refine lv_iconst (v := (1 : Int32)) hx hb dL_law_1191 (by decide) (W.pc 1192 rfl ?_)
  refine lv_iadd hx hb dL_law_1192 (W.pc 1193 rfl ?_)
  refine va_sld hx hb hX0 hbl hbA hS (hin 1 (by decide)) dL_law_1193 (W.pc 1194 rfl ?_)
  refine kVr (st1 := [.int r, .int r]) hX (L8_count l E md (xs (x3 + (1 : Int32)).toNatClampNeg) t0 r t1 h8) B_X8_count w_5_205 hK hPa hPb hD hS hA (q0 := 0) (ci := 5) rfl rfl rfl rfl hl.1 rfl (Nat.le_of_ble_eq_true rfl) ⟨Nat.le_of_ble_eq_true rfl, Nat.le_of_ble_eq_true rfl⟩ ⟨Nat.le_of_ble_eq_true rfl, Nat.le_of_ble_eq_true rfl⟩ dL_law_1194 rfl (fun H locs hPa hPb hD hS => W.pc 1197 rfl ?_)
  refine lv_icmp_eq (tgt := 1216) hx hb dL_law_1197 (by decide) (fun _ => ?_) (fun q => absurd rfl q)
  exact K s1 t1 hR1 _ _ _ hPa hPb hD hS hl
set_option maxHeartbeats 4000000 in
set_option maxRecDepth 100000 in
theorem law_37 {p : Program} {l : Launch} {e : Env} {s : State} {m : MethodId} {below : List Frame} {meth : Method} {c : Code} {b L : Nat} {xs : Nat → Int32} {REL : CSt → MSt → Prop} (hst : ∀ (s : CSt) (t : MSt), REL s t → ∃ (r : Int64) (s1 : CSt) (t1 : MSt), S7_digest s = some (r, s1) ∧ S8_digest t = some (r, t1) ∧ REL s1 t1) (C0 : lw_At p s m meth c b L xs) {x3 : Int32} (hin : ∀ j : Nat, j < 6 → vp_in (x3 + nI j) L) {E : wE} {Z : sE} (hK : wK E s) (hF : SF Z (fun q : Nat => s.heap.size ≤ q) s s.heap) {ad md : Nat → Nat} {s0 : CSt} {t0 : MSt} (hR : REL s0 t0) (K : ∀ (s1 : CSt) (t1 : MSt), REL s1 t1 → ∀ (H : Heap) (locs : List Loc) (ls : Array Slot), wP E (CW E ad s1) H → wP E (MWd E md t1) H → va_D (fun q : Nat => s.heap.size ≤ q) (CW E ad s1 ++ MWd E md t1) → va_S (fun q : Nat => s.heap.size ≤ q) s.heap H locs → lv_has ls 4 [(0, .ref b), (1, .ref (ad 0)), (2, .ref (md 0)), (3, .int x3)] → W p l e room_1 s m #[Value.ref b] below meth c H locs 200 6980 (lw_Z below #[Value.ref b] s) (F0 m 1216 ls [])) : ∀ (H : Heap) (locs : List Loc) (ls : Array Slot), wP E (CW E ad s0) H → wP E (MWd E md t0) H → va_D (fun q : Nat => s.heap.size ≤ q) (CW E ad s0 ++ MWd E md t0) → va_S (fun q : Nat => s.heap.size ≤ q) s.heap H locs → lv_has ls 4 [(0, .ref b), (1, .ref (ad 0)), (2, .ref (md 0)), (3, .int x3)] → W p l e room_1 s m #[Value.ref b] below meth c H locs 200 6980 (lw_Z below #[Value.ref b] s) (F0 m 1202 ls []) := by
  intro H locs ls hPa hPb hD hS hl
  obtain ⟨hx, hb, hr, hml, hown, hts, hX0, hbl, hlocks, hgv⟩ := C0
  have hA : ∀ q : Nat, s.heap.size ≤ q → (fun q : Nat => s.heap.size ≤ q) q := fun _ h => h
  have hbA : ¬ (fun q : Nat => s.heap.size ≤ q) b := Nat.not_le.mpr hbl
  have hX : CX p s m #[Value.ref b] meth c code 4 ret RL := ⟨hx, hb, hr, hml, fun w hw => hts w (List.mem_filter.mp hw).1, hown, hlocks, wN.of (fun w hw => hts w (List.mem_append_right _ hw))⟩
  obtain ⟨r, s1, t1, h7, h8, hR1⟩ := hst s0 t0 hR
  refine lv_aload_n hx hb dL_law_1202 rfl (lv_at hl 1 rfl) (W.pc 1203 rfl ?_)
  refine kVl (st1 := [.long r]) hX (L7_digest l E ad  s0 r s1 h7) B_X7_digest w_4_46 hK hPa hPb hD hS hA (q0 := 0) (ci := 4) rfl rfl rfl rfl hl.1 rfl (Nat.le_of_ble_eq_true rfl) ⟨Nat.le_of_ble_eq_true rfl, Nat.le_of_ble_eq_true rfl⟩ ⟨Nat.le_of_ble_eq_true rfl, Nat.le_of_ble_eq_true rfl⟩ dL_law_1203 rfl (fun H locs hPa hPb hD hS => W.pc 1206 rfl ?_)
  refine lv_aload_n hx hb dL_law_1206 rfl (lv_at hl 2 rfl) (W.pc 1207 rfl ?_)
  refine kVr (st1 := [.long r, .long r]) hX (L8_digest l E md  t0 r t1 h8) B_X8_digest w_5_213 hK hPa hPb hD hS hA (q0 := 0) (ci := 5) rfl rfl rfl rfl hl.1 rfl (Nat.le_of_ble_eq_true rfl) ⟨Nat.le_of_ble_eq_true rfl, Nat.le_of_ble_eq_true rfl⟩ ⟨Nat.le_of_ble_eq_true rfl, Nat.le_of_ble_eq_true rfl⟩ dL_law_1207 rfl (fun H locs hPa hPb hD hS => W.pc 1210 rfl ?_)
  refine W.lcmp hx hb dL_law_1210 (W.pc 1211 rfl ?_)
  refine lv_if_eq (tgt := 1216) hx hb dL_law_1211 (by decide) (fun _ => ?_) (fun q => absurd (lg_self r) q)
  exact K s1 t1 hR1 _ _ _ hPa hPb hD hS hl
