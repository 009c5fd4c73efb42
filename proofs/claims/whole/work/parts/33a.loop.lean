theorem w_1_18 : Cond.instantiable RX7 15 ∈ TBL := TBL_t (tin1 (List.mem_of_getElem? (i := 18) (by decide +kernel))) (by decide +kernel)
theorem w_4_63 : Cond.instantiable RX8 16 ∈ TBL := TBL_t (tin4 (List.mem_of_getElem? (i := 63) (by decide +kernel))) (by decide +kernel)
theorem w_1_17 : Cond.classLink RL 7 RX7 ∈ TBL := TBL_t (tin1 (List.mem_of_getElem? (i := 17) (by decide +kernel))) (by decide +kernel)
theorem w_1_19 : Cond.methodLink RL 9 yX7_init ∈ TBL := TBL_t (tin1 (List.mem_of_getElem? (i := 19) (by decide +kernel))) (by decide +kernel)
theorem w_4_62 : Cond.classLink RL 10 RX8 ∈ TBL := TBL_t (tin4 (List.mem_of_getElem? (i := 62) (by decide +kernel))) (by decide +kernel)
theorem w_4_64 : Cond.methodLink RL 12 yX8_init ∈ TBL := TBL_t (tin4 (List.mem_of_getElem? (i := 64) (by decide +kernel))) (by decide +kernel)
def STEPS (REL : CSt → MSt → Prop) : Prop :=
  (∀ (p1 : Int32) (s : CSt) (t : MSt), REL s t → ∃ (r : Int32) (s1 : CSt) (t1 : MSt), S7_town p1 s = some (r, s1) ∧ S8_town p1 t = some (r, t1) ∧ REL s1 t1) ∧
  (∀ (p1 p2 : Int32) (s : CSt) (t : MSt), REL s t → ∃ (r : Int32) (s1 : CSt) (t1 : MSt), S7_pull p1 p2 s = some (r, s1) ∧ S8_pull p1 p2 t = some (r, t1) ∧ REL s1 t1) ∧
  (∀ (p1 : Int32) (s : CSt) (t : MSt), REL s t → ∃ (r : Int32) (s1 : CSt) (t1 : MSt), S7_member p1 s = some (r, s1) ∧ S8_member p1 t = some (r, t1) ∧ REL s1 t1) ∧
  (∀ (p1 : Int32) (s : CSt) (t : MSt), REL s t → ∃ (r : Int32) (s1 : CSt) (t1 : MSt), S7_type p1 s = some (r, s1) ∧ S8_type p1 t = some (r, t1) ∧ REL s1 t1) ∧
  (∀ (s : CSt) (t : MSt), REL s t → ∃ (r : Int32) (s1 : CSt) (t1 : MSt), S7_clear s = some (r, s1) ∧ S8_clear t = some (r, t1) ∧ REL s1 t1) ∧
  (∀ (s : CSt) (t : MSt), REL s t → ∃ (r : Int32) (s1 : CSt) (t1 : MSt), S7_read s = some (r, s1) ∧ S8_read t = some (r, t1) ∧ REL s1 t1) ∧
  (∀ (p1 p2 p3 : Int32) (s : CSt) (t : MSt), REL s t → ∃ (r : Int32) (s1 : CSt) (t1 : MSt), S7_build p1 p2 p3 s = some (r, s1) ∧ S8_build p1 p2 p3 t = some (r, t1) ∧ REL s1 t1) ∧
  (∀ (p1 : Int32) (s : CSt) (t : MSt), REL s t → ∃ (r : Int32) (s1 : CSt) (t1 : MSt), S7_year p1 s = some (r, s1) ∧ S8_year p1 t = some (r, t1) ∧ REL s1 t1) ∧
  (∀ (s : CSt) (t : MSt), REL s t → ∃ (r : Int32) (s1 : CSt) (t1 : MSt), S7_undo s = some (r, s1) ∧ S8_undo t = some (r, t1) ∧ REL s1 t1) ∧
  (∀ (p1 : Int32) (s : CSt) (t : MSt), REL s t → ∃ (r : Int32) (s1 : CSt) (t1 : MSt), S7_now p1 s = some (r, s1) ∧ S8_now p1 t = some (r, t1) ∧ REL s1 t1) ∧
  (∀ (p1 p2 p3 : Int32) (s : CSt) (t : MSt), REL s t → ∃ (r : Int32) (s1 : CSt) (t1 : MSt), S7_of p1 p2 p3 s = some (r, s1) ∧ S8_of p1 p2 p3 t = some (r, t1) ∧ REL s1 t1) ∧
  (∀ (p1 p2 : Int32) (s : CSt) (t : MSt), REL s t → ∃ (r : Int32) (s1 : CSt) (t1 : MSt), S7_plot p1 p2 s = some (r, s1) ∧ S8_plot p1 p2 t = some (r, t1) ∧ REL s1 t1) ∧
  (∀ (p1 : Int32) (s : CSt) (t : MSt), REL s t → ∃ (r : Int32) (s1 : CSt) (t1 : MSt), S7_then p1 s = some (r, s1) ∧ S8_then p1 t = some (r, t1) ∧ REL s1 t1) ∧
  (∀ (p1 : Int32) (s : CSt) (t : MSt), REL s t → ∃ (r : Int32) (s1 : CSt) (t1 : MSt), S7_when p1 s = some (r, s1) ∧ S8_when p1 t = some (r, t1) ∧ REL s1 t1) ∧
  (∀ (p1 p2 p3 : Int32) (s : CSt) (t : MSt), REL s t → ∃ (r : Int32) (s1 : CSt) (t1 : MSt), S7_fits p1 p2 p3 s = some (r, s1) ∧ S8_fits p1 p2 p3 t = some (r, t1) ∧ REL s1 t1) ∧
  (∀ (p1 : Int32) (s : CSt) (t : MSt), REL s t → ∃ (r : Int32) (s1 : CSt) (t1 : MSt), S7_rolls p1 s = some (r, s1) ∧ S8_rolls p1 t = some (r, t1) ∧ REL s1 t1) ∧
  (∀ (p1 : Int32) (s : CSt) (t : MSt), REL s t → ∃ (r : Int32) (s1 : CSt) (t1 : MSt), S7_lies p1 s = some (r, s1) ∧ S8_lies p1 t = some (r, t1) ∧ REL s1 t1) ∧
  (∀ (p1 p2 : Int32) (s : CSt) (t : MSt), REL s t → ∃ (r : Int32) (s1 : CSt) (t1 : MSt), S7_pass p1 p2 s = some (r, s1) ∧ S8_pass p1 p2 t = some (r, t1) ∧ REL s1 t1) ∧
  (∀ (p1 p2 : Int32) (s : CSt) (t : MSt), REL s t → ∃ (r : Int32) (s1 : CSt) (t1 : MSt), S7_order p1 p2 s = some (r, s1) ∧ S8_order p1 p2 t = some (r, t1) ∧ REL s1 t1) ∧
  (∀ (p1 : Int32) (s : CSt) (t : MSt), REL s t → ∃ (r : Int32) (s1 : CSt) (t1 : MSt), S7_council p1 s = some (r, s1) ∧ S8_council p1 t = some (r, t1) ∧ REL s1 t1) ∧
  (∀ (p1 : Int32) (s : CSt) (t : MSt), REL s t → ∃ (r : Int32) (s1 : CSt) (t1 : MSt), S7_power p1 s = some (r, s1) ∧ S8_power p1 t = some (r, t1) ∧ REL s1 t1) ∧
  (∀ (p1 p2 : Int32) (s : CSt) (t : MSt), REL s t → ∃ (r : Int32) (s1 : CSt) (t1 : MSt), S7_built p1 p2 s = some (r, s1) ∧ S8_built p1 p2 t = some (r, t1) ∧ REL s1 t1) ∧
  (∀ (p1 p2 p3 p4 : Int32) (s : CSt) (t : MSt), REL s t → ∃ (r : Int32) (s1 : CSt) (t1 : MSt), S7_note p1 p2 p3 p4 s = some (r, s1) ∧ S8_note p1 p2 p3 p4 t = some (r, t1) ∧ REL s1 t1) ∧
  (∀ (p1 p2 p3 p4 p5 : Int32) (s : CSt) (t : MSt), REL s t → ∃ (r : Int32) (s1 : CSt) (t1 : MSt), S7_mark p1 p2 p3 p4 p5 s = some (r, s1) ∧ S8_mark p1 p2 p3 p4 p5 t = some (r, t1) ∧ REL s1 t1) ∧
  (∀ (p1 : Int32) (s : CSt) (t : MSt), REL s t → ∃ (r : Int32) (s1 : CSt) (t1 : MSt), S7_forget p1 s = some (r, s1) ∧ S8_forget p1 t = some (r, t1) ∧ REL s1 t1) ∧
  (∀ (s : CSt) (t : MSt), REL s t → ∃ (r : Int32) (s1 : CSt) (t1 : MSt), S7_is s = some (r, s1) ∧ S8_is t = some (r, t1) ∧ REL s1 t1) ∧
  (∀ (s : CSt) (t : MSt), REL s t → ∃ (r : Int32) (s1 : CSt) (t1 : MSt), S7_watch s = some (r, s1) ∧ S8_watch t = some (r, t1) ∧ REL s1 t1) ∧
  (∀ (p1 : Int32) (s : CSt) (t : MSt), REL s t → ∃ (r : Int32) (s1 : CSt) (t1 : MSt), S7_kinds p1 s = some (r, s1) ∧ S8_kinds p1 t = some (r, t1) ∧ REL s1 t1) ∧
  (∀ (p1 : Int32) (s : CSt) (t : MSt), REL s t → ∃ (r : Int32) (s1 : CSt) (t1 : MSt), S7_tries p1 s = some (r, s1) ∧ S8_tries p1 t = some (r, t1) ∧ REL s1 t1) ∧
  (∀ (s : CSt) (t : MSt), REL s t → ∃ (r : Int32) (s1 : CSt) (t1 : MSt), S7_game s = some (r, s1) ∧ S8_game t = some (r, t1) ∧ REL s1 t1) ∧
  (∀ (p1 p2 p3 : Int32) (s : CSt) (t : MSt), REL s t → ∃ (r : Int32) (s1 : CSt) (t1 : MSt), S7_chance p1 p2 p3 s = some (r, s1) ∧ S8_chance p1 p2 p3 t = some (r, t1) ∧ REL s1 t1) ∧
  (∀ (p1 p2 : Int32) (s : CSt) (t : MSt), REL s t → ∃ (r : Int32) (s1 : CSt) (t1 : MSt), S7_times p1 p2 s = some (r, s1) ∧ S8_times p1 p2 t = some (r, t1) ∧ REL s1 t1) ∧
  (∀ (p1 : Int32) (s : CSt) (t : MSt), REL s t → ∃ (r : Int64) (s1 : CSt) (t1 : MSt), S7_part p1 s = some (r, s1) ∧ S8_part p1 t = some (r, t1) ∧ REL s1 t1) ∧
  (∀ (p1 : Int32) (s : CSt) (t : MSt), REL s t → ∃ (r : Int32) (s1 : CSt) (t1 : MSt), S7_image p1 s = some (r, s1) ∧ S8_image p1 t = some (r, t1) ∧ REL s1 t1) ∧
  (∀ (p1 : Int32) (s : CSt) (t : MSt), REL s t → ∃ (r : Int32) (s1 : CSt) (t1 : MSt), S7_from p1 s = some (r, s1) ∧ S8_from p1 t = some (r, t1) ∧ REL s1 t1) ∧
  (∀ (p1 : Int32) (s : CSt) (t : MSt), REL s t → ∃ (r : Int32) (s1 : CSt) (t1 : MSt), S7_status p1 s = some (r, s1) ∧ S8_status p1 t = some (r, t1) ∧ REL s1 t1) ∧
  (∀ (p1 : Int32) (s : CSt) (t : MSt), REL s t → ∃ (r : Int32) (s1 : CSt) (t1 : MSt), S7_count p1 s = some (r, s1) ∧ S8_count p1 t = some (r, t1) ∧ REL s1 t1) ∧
  (∀ (s : CSt) (t : MSt), REL s t → ∃ (r : Int64) (s1 : CSt) (t1 : MSt), S7_digest s = some (r, s1) ∧ S8_digest t = some (r, t1) ∧ REL s1 t1)
set_option maxHeartbeats 4000000 in
set_option maxRecDepth 100000 in
theorem law_head {p : Program} {l : Launch} {e : Env} {s : State} {m : MethodId} {below : List Frame} {meth : Method} {c : Code} {b L : Nat} {xs : Nat → Int32} (C0 : lw_At p s m meth c b L xs) {x3 : Int32} {H : Heap} {locs : List Loc} {ls : Array Slot} {v1 v2 : Value} (hS : va_S (fun q : Nat => s.heap.size ≤ q) s.heap H locs) (hl : lv_has ls 4 [(0, .ref b), (1, v1), (2, v2), (3, .int x3)]) (hgo : ¬ Int32.ofNat L - 6 < x3 → W p l e room_1 s m #[Value.ref b] below meth c H locs 200 6980 (lw_Z below #[Value.ref b] s) (F0 m 27 ls [])) : W p l e room_1 s m #[Value.ref b] below meth c H locs 200 6980 (lw_Z below #[Value.ref b] s) (F0 m 18 ls []) := by
  obtain ⟨hx, hb, hr, hml, hown, hts, hX0, hbl, hlocks, hgv⟩ := C0
  have hbA : ¬ (fun q : Nat => s.heap.size ≤ q) b := Nat.not_le.mpr hbl
  refine lv_iload_n hx hb dL_law_18 rfl (lv_at hl 3 rfl) (W.pc 19 rfl ?_)
  refine lv_aload_n hx hb dL_law_19 rfl (lv_at hl 0 rfl) (W.pc 20 rfl ?_)
  refine va_slen hx hb hX0 hbl hbA hS dL_law_20 (W.pc 21 rfl ?_)
  refine lv_bipush (v := 6) hx hb dL_law_21 (by decide) (W.pc 23 rfl ?_)
  refine lv_isub hx hb dL_law_23 (W.pc 24 rfl ?_)
  refine lv_icmp_gt (tgt := 1222) hx hb dL_law_24 (by decide) (fun c1 => ?_) (fun c1 => W.pc 27 rfl (hgo c1))
  refine lv_iconst (v := 1) hx hb dL_law_1222 (by decide) (W.pc 1223 rfl ?_)
  refine va_forget (fun q hq => hS.2.2 q hq) ?_
  refine W.widen (k := 600000) (n := 7302250) (Nat.le_of_ble_eq_true rfl) (Nat.le_of_ble_eq_true rfl) ?_
  exact lw_ret hx hb hr hlocks dL_law_1223
set_option maxHeartbeats 4000000 in
set_option maxRecDepth 100000 in
theorem law_body {p : Program} {l : Launch} {e : Env} {s : State} {m : MethodId} {below : List Frame} {meth : Method} {c : Code} {b L : Nat} {xs : Nat → Int32} {REL : CSt → MSt → Prop} (hst : STEPS REL) (hL : L ≤ 384) (C0 : lw_At p s m meth c b L xs) {x3 : Int32} {i : Nat} (hx3 : x3 = nI i) (hi : i + 6 ≤ L) {E : wE} {Z : sE} (hK : wK E s) (hF : SF Z (fun q : Nat => s.heap.size ≤ q) s s.heap) {ad md : Nat → Nat} {s0 : CSt} {t0 : MSt} (hR : REL s0 t0) (K : ∀ (s1 : CSt) (t1 : MSt), REL s1 t1 → ∀ (H : Heap) (locs : List Loc) (ls : Array Slot), wP E (CW E ad s1) H → wP E (MWd E md t1) H → va_D (fun q : Nat => s.heap.size ≤ q) (CW E ad s1 ++ MWd E md t1) → va_S (fun q : Nat => s.heap.size ≤ q) s.heap H locs → lv_has ls 4 [(0, .ref b), (1, .ref (ad 0)), (2, .ref (md 0)), (3, .int x3)] → W p l e room_1 s m #[Value.ref b] below meth c H locs 200 6980 (lw_Z below #[Value.ref b] s) (F0 m 1216 ls [])) : ∀ (H : Heap) (locs : List Loc) (ls : Array Slot), wP E (CW E ad s0) H → wP E (MWd E md t0) H → va_D (fun q : Nat => s.heap.size ≤ q) (CW E ad s0 ++ MWd E md t0) → va_S (fun q : Nat => s.heap.size ≤ q) s.heap H locs → lv_has ls 4 [(0, .ref b), (1, .ref (ad 0)), (2, .ref (md 0)), (3, .int x3)] → W p l e room_1 s m #[Value.ref b] below meth c H locs 200 6980 (lw_Z below #[Value.ref b] s) (F0 m 27 ls []) := by
  intro H locs ls hPa hPb hD hS hl
  obtain ⟨hx, hb, hr, hml, hown, hts, hX0, hbl, hlocks, hgv⟩ := id C0
  have hbA : ¬ (fun q : Nat => s.heap.size ≤ q) b := Nat.not_le.mpr hbl
  have hin : ∀ j : Nat, j < 6 → vp_in (x3 + nI j) L := fun j hj => by rw [hx3, nI_add]; exact vp_in_nI (by omega) (by omega)
  have hin0 : vp_in x3 L := by rw [hx3]; exact vp_in_nI (by omega) (by omega)
  refine lv_aload_n hx hb dL_law_27 rfl (lv_at hl 0 rfl) (W.pc 28 rfl ?_)
  refine lv_iload_n hx hb dL_law_28 rfl (lv_at hl 3 rfl) (W.pc 29 rfl ?_)
  refine va_sld hx hb hX0 hbl hbA hS hin0 dL_law_29 (W.pc 30 rfl ?_)
  refine lv_bipush (v := 63) hx hb dL_law_30 (by decide) (W.pc 32 rfl ?_)
  refine lv_iand hx hb dL_law_32 (W.pc 33 rfl ?_)
  obtain ⟨j, hj, ej⟩ := pk_andE (xs x3.toNatClampNeg) (m := 63) 6 (by decide)
  rw [ej]
  obtain ⟨h0, h1, h2, h3, h4, h5, h6, h7, h8, h9, h10, h11, h12, h13, h14, h15, h16, h17, h18, h19, h20, h21, h22, h23, h24, h25, h26, h27, h28, h29, h30, h31, h32, h33, h34, h35, h36, h37⟩ := hst
  match j, hj with
  | 0, _ =>
    refine lv_tableIn (off := 167) (tgt := 200) hx hb dL_law_33 (by decide) (by decide) rfl (by decide) ?_
    exact law_0 h0 C0 hin hK hF hR K H locs ls hPa hPb hD hS hl
  | 1, _ =>
    refine lv_tableIn (off := 190) (tgt := 223) hx hb dL_law_33 (by decide) (by decide) rfl (by decide) ?_
    exact law_1 h1 C0 hin hK hF hR K H locs ls hPa hPb hD hS hl
  | 2, _ =>
    refine lv_tableIn (off := 223) (tgt := 256) hx hb dL_law_33 (by decide) (by decide) rfl (by decide) ?_
    exact law_2 h2 C0 hin hK hF hR K H locs ls hPa hPb hD hS hl
  | 3, _ =>
    refine lv_tableIn (off := 246) (tgt := 279) hx hb dL_law_33 (by decide) (by decide) rfl (by decide) ?_
    exact law_3 h3 C0 hin hK hF hR K H locs ls hPa hPb hD hS hl
  | 4, _ =>
    refine lv_tableIn (off := 269) (tgt := 302) hx hb dL_law_33 (by decide) (by decide) rfl (by decide) ?_
    exact law_4 h4 C0 hin hK hF hR K H locs ls hPa hPb hD hS hl
  | 5, _ =>
    refine lv_tableIn (off := 282) (tgt := 315) hx hb dL_law_33 (by decide) (by decide) rfl (by decide) ?_
    exact law_5 h5 C0 hin hK hF hR K H locs ls hPa hPb hD hS hl
  | 6, _ =>
    refine lv_tableIn (off := 295) (tgt := 328) hx hb dL_law_33 (by decide) (by decide) rfl (by decide) ?_
    exact law_6 h6 C0 hin hK hF hR K H locs ls hPa hPb hD hS hl
  | 7, _ =>
    refine lv_tableIn (off := 338) (tgt := 371) hx hb dL_law_33 (by decide) (by decide) rfl (by decide) ?_
    exact law_7 h7 C0 hin hK hF hR K H locs ls hPa hPb hD hS hl
  | 8, _ =>
    refine lv_tableIn (off := 361) (tgt := 394) hx hb dL_law_33 (by decide) (by decide) rfl (by decide) ?_
    exact law_8 h8 C0 hin hK hF hR K H locs ls hPa hPb hD hS hl
  | 9, _ =>
    refine lv_tableIn (off := 374) (tgt := 407) hx hb dL_law_33 (by decide) (by decide) rfl (by decide) ?_
    exact law_9 h9 C0 hin hK hF hR K H locs ls hPa hPb hD hS hl
  | 10, _ =>
    refine lv_tableIn (off := 397) (tgt := 430) hx hb dL_law_33 (by decide) (by decide) rfl (by decide) ?_
    exact law_10 h10 C0 hin hK hF hR K H locs ls hPa hPb hD hS hl
  | 11, _ =>
    refine lv_tableIn (off := 440) (tgt := 473) hx hb dL_law_33 (by decide) (by decide) rfl (by decide) ?_
    exact law_11 h11 C0 hin hK hF hR K H locs ls hPa hPb hD hS hl
  | 12, _ =>
    refine lv_tableIn (off := 473) (tgt := 506) hx hb dL_law_33 (by decide) (by decide) rfl (by decide) ?_
    exact law_12 h12 C0 hin hK hF hR K H locs ls hPa hPb hD hS hl
  | 13, _ =>
    refine lv_tableIn (off := 496) (tgt := 529) hx hb dL_law_33 (by decide) (by decide) rfl (by decide) ?_
    exact law_13 h13 C0 hin hK hF hR K H locs ls hPa hPb hD hS hl
  | 14, _ =>
    refine lv_tableIn (off := 519) (tgt := 552) hx hb dL_law_33 (by decide) (by decide) rfl (by decide) ?_
    exact law_14 h14 C0 hin hK hF hR K H locs ls hPa hPb hD hS hl
  | 15, _ =>
    refine lv_tableIn (off := 562) (tgt := 595) hx hb dL_law_33 (by decide) (by decide) rfl (by decide) ?_
    exact law_15 h15 C0 hin hK hF hR K H locs ls hPa hPb hD hS hl
  | 16, _ =>
    refine lv_tableIn (off := 585) (tgt := 618) hx hb dL_law_33 (by decide) (by decide) rfl (by decide) ?_
    exact law_16 h16 C0 hin hK hF hR K H locs ls hPa hPb hD hS hl
  | 17, _ =>
    refine lv_tableIn (off := 608) (tgt := 641) hx hb dL_law_33 (by decide) (by decide) rfl (by decide) ?_
    exact law_17 h17 C0 hin hK hF hR K H locs ls hPa hPb hD hS hl
  | 18, _ =>
    refine lv_tableIn (off := 641) (tgt := 674) hx hb dL_law_33 (by decide) (by decide) rfl (by decide) ?_
    exact law_18 h18 C0 hin hK hF hR K H locs ls hPa hPb hD hS hl
  | 19, _ =>
    refine lv_tableIn (off := 674) (tgt := 707) hx hb dL_law_33 (by decide) (by decide) rfl (by decide) ?_
    exact law_19 h19 C0 hin hK hF hR K H locs ls hPa hPb hD hS hl
  | 20, _ =>
    refine lv_tableIn (off := 697) (tgt := 730) hx hb dL_law_33 (by decide) (by decide) rfl (by decide) ?_
    exact law_20 h20 C0 hin hK hF hR K H locs ls hPa hPb hD hS hl
  | 21, _ =>
    refine lv_tableIn (off := 720) (tgt := 753) hx hb dL_law_33 (by decide) (by decide) rfl (by decide) ?_
    exact law_21 h21 C0 hin hK hF hR K H locs ls hPa hPb hD hS hl
  | 22, _ =>
    refine lv_tableIn (off := 753) (tgt := 786) hx hb dL_law_33 (by decide) (by decide) rfl (by decide) ?_
    exact law_22 h22 C0 hin hK hF hR K H locs ls hPa hPb hD hS hl
  | 23, _ =>
    refine lv_tableIn (off := 806) (tgt := 839) hx hb dL_law_33 (by decide) (by decide) rfl (by decide) ?_
    exact law_23 h23 C0 hin hK hF hR K H locs ls hPa hPb hD hS hl
  | 24, _ =>
    refine lv_tableIn (off := 869) (tgt := 902) hx hb dL_law_33 (by decide) (by decide) rfl (by decide) ?_
    exact law_24 h24 C0 hin hK hF hR K H locs ls hPa hPb hD hS hl
  | 25, _ =>
    refine lv_tableIn (off := 892) (tgt := 925) hx hb dL_law_33 (by decide) (by decide) rfl (by decide) ?_
    exact law_25 h25 C0 hin hK hF hR K H locs ls hPa hPb hD hS hl
  | 26, _ =>
    refine lv_tableIn (off := 905) (tgt := 938) hx hb dL_law_33 (by decide) (by decide) rfl (by decide) ?_
    exact law_26 h26 C0 hin hK hF hR K H locs ls hPa hPb hD hS hl
  | 27, _ =>
    refine lv_tableIn (off := 918) (tgt := 951) hx hb dL_law_33 (by decide) (by decide) rfl (by decide) ?_
    exact law_27 h27 C0 hin hK hF hR K H locs ls hPa hPb hD hS hl
  | 28, _ =>
    refine lv_tableIn (off := 941) (tgt := 974) hx hb dL_law_33 (by decide) (by decide) rfl (by decide) ?_
    exact law_28 h28 C0 hin hK hF hR K H locs ls hPa hPb hD hS hl
  | 29, _ =>
    refine lv_tableIn (off := 964) (tgt := 997) hx hb dL_law_33 (by decide) (by decide) rfl (by decide) ?_
    exact law_29 h29 C0 hin hK hF hR K H locs ls hPa hPb hD hS hl
  | 30, _ =>
    refine lv_tableIn (off := 977) (tgt := 1010) hx hb dL_law_33 (by decide) (by decide) rfl (by decide) ?_
    exact law_30 h30 C0 hin hK hF hR K H locs ls hPa hPb hD hS hl
  | 31, _ =>
    refine lv_tableIn (off := 1020) (tgt := 1053) hx hb dL_law_33 (by decide) (by decide) rfl (by decide) ?_
    exact law_31 h31 C0 hin hK hF hR K H locs ls hPa hPb hD hS hl
  | 32, _ =>
    refine lv_tableIn (off := 1053) (tgt := 1086) hx hb dL_law_33 (by decide) (by decide) rfl (by decide) ?_
    exact law_32 h32 C0 hin hK hF hR K H locs ls hPa hPb hD hS hl
  | 33, _ =>
    refine lv_tableIn (off := 1077) (tgt := 1110) hx hb dL_law_33 (by decide) (by decide) rfl (by decide) ?_
    exact law_33 h33 C0 hin hK hF hR K H locs ls hPa hPb hD hS hl
  | 34, _ =>
    refine lv_tableIn (off := 1100) (tgt := 1133) hx hb dL_law_33 (by decide) (by decide) rfl (by decide) ?_
    exact law_34 h34 C0 hin hK hF hR K H locs ls hPa hPb hD hS hl
  | 35, _ =>
    refine lv_tableIn (off := 1123) (tgt := 1156) hx hb dL_law_33 (by decide) (by decide) rfl (by decide) ?_
    exact law_35 h35 C0 hin hK hF hR K H locs ls hPa hPb hD hS hl
  | 36, _ =>
    refine lv_tableIn (off := 1146) (tgt := 1179) hx hb dL_law_33 (by decide) (by decide) rfl (by decide) ?_
    exact law_36 h36 C0 hin hK hF hR K H locs ls hPa hPb hD hS hl
  | 37, _ =>
    refine lv_tableIn (off := 1169) (tgt := 1202) hx hb dL_law_33 (by decide) (by decide) rfl (by decide) ?_
    exact law_37 h37 C0 hin hK hF hR K H locs ls hPa hPb hD hS hl
  | j + 38, hj =>
    refine lv_tableOut (tgt := 1216) hx hb dL_law_33 (Or.inr (by rw [nI_toInt (by omega)]; omega)) (by decide) ?_
    exact K s0 t0 hR H locs ls hPa hPb hD hS hl
set_option maxHeartbeats 4000000 in
set_option maxRecDepth 100000 in
theorem law_loop {p : Program} {l : Launch} {e : Env} {s : State} {m : MethodId} {below : List Frame} {meth : Method} {c : Code} {b L : Nat} {xs : Nat → Int32} {REL : CSt → MSt → Prop} (hst : STEPS REL) (hL : L ≤ 384) (C0 : lw_At p s m meth c b L xs) {E : wE} {Z : sE} (hK : wK E s) (hF : SF Z (fun q : Nat => s.heap.size ≤ q) s s.heap) {ad md : Nat → Nat} : ∀ (n i : Nat) (x3 : Int32) (s0 : CSt) (t0 : MSt), L ≤ i + n → i ≤ L + 6 → x3 = nI i → REL s0 t0 → ∀ (H : Heap) (locs : List Loc) (ls : Array Slot), wP E (CW E ad s0) H → wP E (MWd E md t0) H → va_D (fun q : Nat => s.heap.size ≤ q) (CW E ad s0 ++ MWd E md t0) → va_S (fun q : Nat => s.heap.size ≤ q) s.heap H locs → lv_has ls 4 [(0, .ref b), (1, .ref (ad 0)), (2, .ref (md 0)), (3, .int x3)] → W p l e room_1 s m #[Value.ref b] below meth c H locs 200 6980 (lw_Z below #[Value.ref b] s) (F0 m 18 ls []) := by
  have go : ∀ (i : Nat) (x3 : Int32), i ≤ L + 6 → x3 = nI i → ¬ Int32.ofNat L - 6 < x3 → i + 6 ≤ L := by
    intro i x3 hi hx3 hc
    subst hx3
    rcases Nat.lt_or_ge L (i + 6) with h | h
    · refine absurd ?_ hc
      refine Int32.lt_iff_toInt_lt.mpr ?_
      have e1 : (Int32.ofNat L - 6).toInt = (L : Int) - 6 := pk_sub_toInt (a := L) (b := 6) (by omega) (by decide)
      have e2 : (nI i).toInt = (i : Int) := nI_toInt (by omega)
      rw [e1, e2]
      omega
    · exact h
  intro n
  induction n with
  | zero =>
    intro i x3 s0 t0 hn hi hx3 hR H locs ls hPa hPb hD hS hl
    exact law_head C0 hS hl (fun hc => absurd (go i x3 hi hx3 hc) (by omega))
  | succ n ih =>
    intro i x3 s0 t0 hn hi hx3 hR H locs ls hPa hPb hD hS hl
    refine law_head C0 hS hl (fun hc => ?_)
    have h6 := go i x3 hi hx3 hc
    refine law_body hst hL C0 hx3 h6 hK hF hR (fun s1 t1 hR1 H locs ls hPa hPb hD hS hl => ?_) H locs ls hPa hPb hD hS hl
    obtain ⟨hx, hb, hr, hml, hown, hts, hX0, hbl, hlocks, hgv⟩ := id C0
    refine lv_iinc (v := x3 + 6) (lv' := [(3, .int (x3 + 6)), (0, .ref b), (1, .ref (ad 0)), (2, .ref (md 0))]) hx hb dL_law_1216 hl (k := 3) rfl rfl (by decide) rfl (fun ls hl => W.pc 1219 rfl ?_)
    refine lv_goto (tgt := 18) hx hb dL_law_1219 (by decide) ?_
    exact ih (i + 6) (x3 + 6) s1 t1 (by omega) (by omega) (by rw [hx3]; exact nI_add i 6) hR1 _ _ _ hPa hPb hD hS (lv_sub hl [1, 2, 3, 0] rfl)
