theorem w_2_219 : Cond.methodLink RX2 17 yJ9_min_7cf53 ∈ TBL := TBL_t (tin2 (List.mem_of_getElem? (i := 219) (by decide +kernel))) (by decide +kernel)
theorem w_2_220 : Cond.methodLink RX2 23 arraycopyName ∈ TBL := TBL_t (tin2 (List.mem_of_getElem? (i := 220) (by decide +kernel))) (by decide +kernel)
theorem w_2_222 : Cond.native arraycopyName ∈ TBL := TBL_t (tin2 (List.mem_of_getElem? (i := 222) (by decide +kernel))) (by decide +kernel)
theorem w_2_221 : Cond.static arraycopyName ∈ TBL := TBL_t (tin2 (List.mem_of_getElem? (i := 221) (by decide +kernel))) (by decide +kernel)
theorem w_1_15 : Cond.initialized RJ10 ∈ TBL := TBL_t (tin1 (List.mem_of_getElem? (i := 15) (by decide +kernel))) (by decide +kernel)
theorem w_2_227 : Cond.methodLink RX3 28 yX2_copy ∈ TBL := TBL_t (tin2 (List.mem_of_getElem? (i := 227) (by decide +kernel))) (by decide +kernel)
theorem w_2_218 : Cond.code yX2_copy cX2_copy 2 none ∈ TBL := TBL_t (tin2 (List.mem_of_getElem? (i := 218) (by decide +kernel))) (by decide +kernel)
theorem w_2_217 : Cond.static yX2_copy ∈ TBL := TBL_t (tin2 (List.mem_of_getElem? (i := 217) (by decide +kernel))) (by decide +kernel)
theorem B_X2_copy : cS yX2_copy cX2_copy 2 none 2 := ⟨w_2_218, w_2_217, w_1_7, by decide +kernel⟩
theorem dX2_copy_0 : decode cX2_copy 0 = .ok (.aload_n 0, 1) := by decide +kernel
theorem dX2_copy_1 : decode cX2_copy 1 = .ok (.ifnull 21, 3) := by decide +kernel
theorem dX2_copy_4 : decode cX2_copy 4 = .ok (.aload_n 1, 1) := by decide +kernel
theorem dX2_copy_5 : decode cX2_copy 5 = .ok (.ifnull 17, 3) := by decide +kernel
theorem dX2_copy_8 : decode cX2_copy 8 = .ok (.aload_n 0, 1) := by decide +kernel
theorem dX2_copy_9 : decode cX2_copy 9 = .ok (.iconst 0, 1) := by decide +kernel
theorem dX2_copy_10 : decode cX2_copy 10 = .ok (.aload_n 1, 1) := by decide +kernel
theorem dX2_copy_11 : decode cX2_copy 11 = .ok (.iconst 0, 1) := by decide +kernel
theorem dX2_copy_12 : decode cX2_copy 12 = .ok (.aload_n 0, 1) := by decide +kernel
theorem dX2_copy_13 : decode cX2_copy 13 = .ok (.arraylength, 1) := by decide +kernel
theorem dX2_copy_14 : decode cX2_copy 14 = .ok (.aload_n 1, 1) := by decide +kernel
theorem dX2_copy_15 : decode cX2_copy 15 = .ok (.arraylength, 1) := by decide +kernel
theorem dX2_copy_16 : decode cX2_copy 16 = .ok (.invokestatic 17, 3) := by decide +kernel
theorem dX2_copy_19 : decode cX2_copy 19 = .ok (.invokestatic 23, 3) := by decide +kernel
theorem dX2_copy_22 : decode cX2_copy 22 = .ok (.return_, 1) := by decide +kernel
theorem dX3_copyFrom_0 : decode cX3_copyFrom 0 = .ok (.aload_n 0, 1) := by decide +kernel
theorem dX3_copyFrom_1 : decode cX3_copyFrom 1 = .ok (.aload_n 1, 1) := by decide +kernel
theorem dX3_copyFrom_2 : decode cX3_copyFrom 2 = .ok (.getfield 21, 3) := by decide +kernel
theorem dX3_copyFrom_5 : decode cX3_copyFrom 5 = .ok (.putfield 21, 3) := by decide +kernel
theorem dX3_copyFrom_8 : decode cX3_copyFrom 8 = .ok (.aload_n 0, 1) := by decide +kernel
theorem dX3_copyFrom_9 : decode cX3_copyFrom 9 = .ok (.aload_n 1, 1) := by decide +kernel
theorem dX3_copyFrom_10 : decode cX3_copyFrom 10 = .ok (.getfield 25, 3) := by decide +kernel
theorem dX3_copyFrom_13 : decode cX3_copyFrom 13 = .ok (.putfield 25, 3) := by decide +kernel
theorem dX3_copyFrom_16 : decode cX3_copyFrom 16 = .ok (.aload_n 1, 1) := by decide +kernel
theorem dX3_copyFrom_17 : decode cX3_copyFrom 17 = .ok (.getfield 9, 3) := by decide +kernel
theorem dX3_copyFrom_20 : decode cX3_copyFrom 20 = .ok (.aload_n 0, 1) := by decide +kernel
theorem dX3_copyFrom_21 : decode cX3_copyFrom 21 = .ok (.getfield 9, 3) := by decide +kernel
theorem dX3_copyFrom_24 : decode cX3_copyFrom 24 = .ok (.invokestatic 28, 3) := by decide +kernel
theorem dX3_copyFrom_27 : decode cX3_copyFrom 27 = .ok (.aload_n 1, 1) := by decide +kernel
theorem dX3_copyFrom_28 : decode cX3_copyFrom 28 = .ok (.getfield 15, 3) := by decide +kernel
theorem dX3_copyFrom_31 : decode cX3_copyFrom 31 = .ok (.aload_n 0, 1) := by decide +kernel
theorem dX3_copyFrom_32 : decode cX3_copyFrom 32 = .ok (.getfield 15, 3) := by decide +kernel
theorem dX3_copyFrom_35 : decode cX3_copyFrom 35 = .ok (.invokestatic 28, 3) := by decide +kernel
theorem dX3_copyFrom_38 : decode cX3_copyFrom 38 = .ok (.aload_n 1, 1) := by decide +kernel
theorem dX3_copyFrom_39 : decode cX3_copyFrom 39 = .ok (.getfield 18, 3) := by decide +kernel
theorem dX3_copyFrom_42 : decode cX3_copyFrom 42 = .ok (.aload_n 0, 1) := by decide +kernel
theorem dX3_copyFrom_43 : decode cX3_copyFrom 43 = .ok (.getfield 18, 3) := by decide +kernel
theorem dX3_copyFrom_46 : decode cX3_copyFrom 46 = .ok (.invokestatic 28, 3) := by decide +kernel
theorem dX3_copyFrom_49 : decode cX3_copyFrom 49 = .ok (.return_, 1) := by decide +kernel
set_option maxHeartbeats 4000000 in
set_option maxRecDepth 100000 in
theorem c_X2_copy (l : Launch) (E : wE) (a0 a1 : Nat) (n0 : Nat) (hnn0 : n0 < 2 ^ 31) (fa0 : Nat → Int32) (fa1 : Nat → Int32) : MW l yX2_copy cX2_copy 2 none 1 E [.ref a0, .ref a1] [(a0, aI E n0 fa0), (a1, aI E n0 fa1)] none [(a0, aI E n0 fa0), (a1, aI E n0 fa0)] := by
  refine MW.of (by decide +kernel) (Nat.le_of_ble_eq_true rfl) ?_
  intro p e s m below meth c ls A hX hK hP hD hS hA hl
  have hX : CX p s m [.ref a0, .ref a1].toArray meth c cX2_copy 2 none RX2 := hX
  have hx := hX.1; have hb := hX.2.1; have hts := hX.2.2.2.2.1; have hown := hX.2.2.2.2.2.1
  have hl : lv_has ls 2 [(0, .ref a0), (1, .ref a1)] := hl
  have hP : wP E [(a0, aI E n0 fa0), (a1, aI E n0 fa1)] s.heap := hP
  refine lv_aload_n hx hb dX2_copy_0 rfl (lv_at hl 0 rfl) (W.pc 1 rfl ?_)
  refine lv_ifnull hx hb dX2_copy_1 (W.pc 4 rfl ?_)
  refine lv_aload_n hx hb dX2_copy_4 rfl (lv_at hl 1 rfl) (W.pc 5 rfl ?_)
  refine lv_ifnull hx hb dX2_copy_5 (W.pc 8 rfl ?_)
  refine lv_aload_n hx hb dX2_copy_8 rfl (lv_at hl 0 rfl) (W.pc 9 rfl ?_)
  refine lv_iconst (v := (0 : Int32)) hx hb dX2_copy_9 (by decide) (W.pc 10 rfl ?_)
  refine lv_aload_n hx hb dX2_copy_10 rfl (lv_at hl 1 rfl) (W.pc 11 rfl ?_)
  refine lv_iconst (v := (0 : Int32)) hx hb dX2_copy_11 (by decide) (W.pc 12 rfl ?_)
  refine lv_aload_n hx hb dX2_copy_12 rfl (lv_at hl 0 rfl) (W.pc 13 rfl ?_)
  refine va_alen hx hb hK hP 0 0 rfl rfl (v := (Int32.ofNat n0)) rfl dX2_copy_13 (W.pc 14 rfl ?_)
  refine lv_aload_n hx hb dX2_copy_14 rfl (lv_at hl 1 rfl) (W.pc 15 rfl ?_)
  refine va_alen hx hb hK hP 1 0 rfl rfl (v := (Int32.ofNat n0)) rfl dX2_copy_15 (W.pc 16 rfl ?_)
  refine kMin hX hl.1 w_2_219 w_2_204 w_1_13 w_2_205 ⟨Nat.le_of_ble_eq_true rfl, Nat.le_of_ble_eq_true rfl⟩ dX2_copy_16 (W.pc 19 rfl ?_)
  refine kCopy hX hl.1 w_2_220 w_2_222 w_2_221 w_1_15 hK hP hD hS 0 1 hnn0 rfl rfl ⟨Nat.le_of_ble_eq_true rfl, Nat.le_of_ble_eq_true rfl⟩ dX2_copy_19 (fun H locs hP hD hS => W.pc 22 rfl ?_)
  have hP : wP E [(a0, aI E n0 fa0), (a1, aI E n0 fa0)] _ := hP
  have hD : va_D A [(a0, aI E n0 fa0), (a1, aI E n0 fa0)] := hD
  exact rWv hX hP hS rfl dX2_copy_22
set_option maxHeartbeats 4000000 in
set_option maxRecDepth 100000 in
theorem c_X3_copyFrom (l : Launch) (E : wE) (a0 a1 a0_heights a0_storeyKinds a0_storeyTilts a1_heights a1_storeyKinds a1_storeyTilts : Nat) (a0_off : Int32) (a0_year : Int32) (a1_off : Int32) (a1_year : Int32) (fa1_heights : Nat → Int32) (fa0_heights : Nat → Int32) (fa1_storeyKinds : Nat → Int32) (fa0_storeyKinds : Nat → Int32) (fa1_storeyTilts : Nat → Int32) (fa0_storeyTilts : Nat → Int32) : MW l yX3_copyFrom cX3_copyFrom 2 none 2 E [.ref a0, .ref a1] [(a0, .inr (1, [.int a0_off, .int a0_year, .ref a0_heights, .ref a0_storeyKinds, .ref a0_storeyTilts])), (a1, .inr (1, [.int a1_off, .int a1_year, .ref a1_heights, .ref a1_storeyKinds, .ref a1_storeyTilts])), (a1_heights, aI E 6 fa1_heights), (a0_heights, aI E 6 fa0_heights), (a1_storeyKinds, aI E 30 fa1_storeyKinds), (a0_storeyKinds, aI E 30 fa0_storeyKinds), (a1_storeyTilts, aI E 30 fa1_storeyTilts), (a0_storeyTilts, aI E 30 fa0_storeyTilts)] none [(a0, .inr (1, [.int a1_off, .int a1_year, .ref a0_heights, .ref a0_storeyKinds, .ref a0_storeyTilts])), (a1, .inr (1, [.int a1_off, .int a1_year, .ref a1_heights, .ref a1_storeyKinds, .ref a1_storeyTilts])), (a1_heights, aI E 6 fa1_heights), (a0_heights, aI E 6 fa1_heights), (a1_storeyKinds, aI E 30 fa1_storeyKinds), (a0_storeyKinds, aI E 30 fa1_storeyKinds), (a1_storeyTilts, aI E 30 fa1_storeyTilts), (a0_storeyTilts, aI E 30 fa1_storeyTilts)] := by
  refine MW.of (by decide +kernel) (Nat.le_of_ble_eq_true rfl) ?_
  intro p e s m below meth c ls A hX hK hP hD hS hA hl
  have hX : CX p s m [.ref a0, .ref a1].toArray meth c cX3_copyFrom 2 none RX3 := hX
  have hx := hX.1; have hb := hX.2.1; have hts := hX.2.2.2.2.1; have hown := hX.2.2.2.2.2.1
  have hl : lv_has ls 2 [(0, .ref a0), (1, .ref a1)] := hl
  have hP : wP E [(a0, .inr (1, [.int a0_off, .int a0_year, .ref a0_heights, .ref a0_storeyKinds, .ref a0_storeyTilts])), (a1, .inr (1, [.int a1_off, .int a1_year, .ref a1_heights, .ref a1_storeyKinds, .ref a1_storeyTilts])), (a1_heights, aI E 6 fa1_heights), (a0_heights, aI E 6 fa0_heights), (a1_storeyKinds, aI E 30 fa1_storeyKinds), (a0_storeyKinds, aI E 30 fa0_storeyKinds), (a1_storeyTilts, aI E 30 fa1_storeyTilts), (a0_storeyTilts, aI E 30 fa0_storeyTilts)] s.heap := hP
  refine lv_aload_n hx hb dX3_copyFrom_0 rfl (lv_at hl 0 rfl) (W.pc 1 rfl ?_)
  refine lv_aload_n hx hb dX3_copyFrom_1 rfl (lv_at hl 1 rfl) (W.pc 2 rfl ?_)
  refine va_get (D := E.1) (ci := 1) (v := .int a1_off) (C := RX3) (T := TX3) (N := 5) hx hb hts inT_X3 hown hK hP 1 rfl rfl 0 (by decide) (hts _ w_1_37) (fun _ h9 => h9) rfl dX3_copyFrom_2 (W.pc 5 rfl ?_)
  refine va_put (D := E.1) (ci := 1) (v := .int a1_off) (ty := .int) (C := RX3) (T := TX3) (N := 5) hx hb hts inT_X3 tyX3 tyX3_ok nmX3 hown hK hP hD hS 0 rfl rfl 0 (by decide) (hts _ w_1_37) (fun _ h9 => h9) rfl (by decide +kernel) rfl rfl (Nat.le_of_ble_eq_true rfl) dX3_copyFrom_5 (fun H locs hP hD hS => W.pc 8 rfl ?_)
  have hP : wP E [(a0, .inr (1, [.int a1_off, .int a0_year, .ref a0_heights, .ref a0_storeyKinds, .ref a0_storeyTilts])), (a1, .inr (1, [.int a1_off, .int a1_year, .ref a1_heights, .ref a1_storeyKinds, .ref a1_storeyTilts])), (a1_heights, aI E 6 fa1_heights), (a0_heights, aI E 6 fa0_heights), (a1_storeyKinds, aI E 30 fa1_storeyKinds), (a0_storeyKinds, aI E 30 fa0_storeyKinds), (a1_storeyTilts, aI E 30 fa1_storeyTilts), (a0_storeyTilts, aI E 30 fa0_storeyTilts)] _ := hP
  have hD : va_D A [(a0, .inr (1, [.int a1_off, .int a0_year, .ref a0_heights, .ref a0_storeyKinds, .ref a0_storeyTilts])), (a1, .inr (1, [.int a1_off, .int a1_year, .ref a1_heights, .ref a1_storeyKinds, .ref a1_storeyTilts])), (a1_heights, aI E 6 fa1_heights), (a0_heights, aI E 6 fa0_heights), (a1_storeyKinds, aI E 30 fa1_storeyKinds), (a0_storeyKinds, aI E 30 fa0_storeyKinds), (a1_storeyTilts, aI E 30 fa1_storeyTilts), (a0_storeyTilts, aI E 30 fa0_storeyTilts)] := hD
  refine lv_aload_n hx hb dX3_copyFrom_8 rfl (lv_at hl 0 rfl) (W.pc 9 rfl ?_)
  refine lv_aload_n hx hb dX3_copyFrom_9 rfl (lv_at hl 1 rfl) (W.pc 10 rfl ?_)
  refine va_get (D := E.1) (ci := 1) (v := .int a1_year) (C := RX3) (T := TX3) (N := 5) hx hb hts inT_X3 hown hK hP 1 rfl rfl 1 (by decide) (hts _ w_1_42) (fun _ h9 => h9) rfl dX3_copyFrom_10 (W.pc 13 rfl ?_)
  refine va_put (D := E.1) (ci := 1) (v := .int a1_year) (ty := .int) (C := RX3) (T := TX3) (N := 5) hx hb hts inT_X3 tyX3 tyX3_ok nmX3 hown hK hP hD hS 0 rfl rfl 1 (by decide) (hts _ w_1_42) (fun _ h9 => h9) rfl (by decide +kernel) rfl rfl (Nat.le_of_ble_eq_true rfl) dX3_copyFrom_13 (fun H locs hP hD hS => W.pc 16 rfl ?_)
  have hP : wP E [(a0, .inr (1, [.int a1_off, .int a1_year, .ref a0_heights, .ref a0_storeyKinds, .ref a0_storeyTilts])), (a1, .inr (1, [.int a1_off, .int a1_year, .ref a1_heights, .ref a1_storeyKinds, .ref a1_storeyTilts])), (a1_heights, aI E 6 fa1_heights), (a0_heights, aI E 6 fa0_heights), (a1_storeyKinds, aI E 30 fa1_storeyKinds), (a0_storeyKinds, aI E 30 fa0_storeyKinds), (a1_storeyTilts, aI E 30 fa1_storeyTilts), (a0_storeyTilts, aI E 30 fa0_storeyTilts)] _ := hP
  have hD : va_D A [(a0, .inr (1, [.int a1_off, .int a1_year, .ref a0_heights, .ref a0_storeyKinds, .ref a0_storeyTilts])), (a1, .inr (1, [.int a1_off, .int a1_year, .ref a1_heights, .ref a1_storeyKinds, .ref a1_storeyTilts])), (a1_heights, aI E 6 fa1_heights), (a0_heights, aI E 6 fa0_heights), (a1_storeyKinds, aI E 30 fa1_storeyKinds), (a0_storeyKinds, aI E 30 fa0_storeyKinds), (a1_storeyTilts, aI E 30 fa1_storeyTilts), (a0_storeyTilts, aI E 30 fa0_storeyTilts)] := hD
  refine lv_aload_n hx hb dX3_copyFrom_16 rfl (lv_at hl 1 rfl) (W.pc 17 rfl ?_)
  refine va_get (D := E.1) (ci := 1) (v := .ref a1_heights) (C := RX3) (T := TX3) (N := 5) hx hb hts inT_X3 hown hK hP 1 rfl rfl 2 (by decide) (hts _ w_1_46) (fun _ h9 => h9) rfl dX3_copyFrom_17 (W.pc 20 rfl ?_)
  refine lv_aload_n hx hb dX3_copyFrom_20 rfl (lv_at hl 0 rfl) (W.pc 21 rfl ?_)
  refine va_get (D := E.1) (ci := 1) (v := .ref a0_heights) (C := RX3) (T := TX3) (N := 5) hx hb hts inT_X3 hown hK hP 0 rfl rfl 2 (by decide) (hts _ w_1_46) (fun _ h9 => h9) rfl dX3_copyFrom_21 (W.pc 24 rfl ?_)
  refine kSW (st1 := []) (ws' := [(a0, .inr (1, [.int a1_off, .int a1_year, .ref a0_heights, .ref a0_storeyKinds, .ref a0_storeyTilts])), (a1, .inr (1, [.int a1_off, .int a1_year, .ref a1_heights, .ref a1_storeyKinds, .ref a1_storeyTilts])), (a1_heights, aI E 6 fa1_heights), (a0_heights, aI E 6 fa1_heights), (a1_storeyKinds, aI E 30 fa1_storeyKinds), (a0_storeyKinds, aI E 30 fa0_storeyKinds), (a1_storeyTilts, aI E 30 fa1_storeyTilts), (a0_storeyTilts, aI E 30 fa0_storeyTilts)]) [2, 3] hX (c_X2_copy l E a1_heights a0_heights 6 (by decide) fa1_heights fa0_heights) B_X2_copy w_2_227 hK hP hD hS hA (by decide) rfl rfl rfl rfl hl.1 rfl (Nat.le_of_ble_eq_true rfl) ⟨Nat.le_of_ble_eq_true rfl, Nat.le_of_ble_eq_true rfl⟩ dX3_copyFrom_24 rfl (fun H locs hP hD hS => W.pc 27 rfl ?_)
  refine lv_aload_n hx hb dX3_copyFrom_27 rfl (lv_at hl 1 rfl) (W.pc 28 rfl ?_)
  refine va_get (D := E.1) (ci := 1) (v := .ref a1_storeyKinds) (C := RX3) (T := TX3) (N := 5) hx hb hts inT_X3 hown hK hP 1 rfl rfl 3 (by decide) (hts _ w_1_47) (fun _ h9 => h9) rfl dX3_copyFrom_28 (W.pc 31 rfl ?_)
  refine lv_aload_n hx hb dX3_copyFrom_31 rfl (lv_at hl 0 rfl) (W.pc 32 rfl ?_)
  refine va_get (D := E.1) (ci := 1) (v := .ref a0_storeyKinds) (C := RX3) (T := TX3) (N := 5) hx hb hts inT_X3 hown hK hP 0 rfl rfl 3 (by decide) (hts _ w_1_47) (fun _ h9 => h9) rfl dX3_copyFrom_32 (W.pc 35 rfl ?_)
  refine kSW (st1 := []) (ws' := [(a0, .inr (1, [.int a1_off, .int a1_year, .ref a0_heights, .ref a0_storeyKinds, .ref a0_storeyTilts])), (a1, .inr (1, [.int a1_off, .int a1_year, .ref a1_heights, .ref a1_storeyKinds, .ref a1_storeyTilts])), (a1_heights, aI E 6 fa1_heights), (a0_heights, aI E 6 fa1_heights), (a1_storeyKinds, aI E 30 fa1_storeyKinds), (a0_storeyKinds, aI E 30 fa1_storeyKinds), (a1_storeyTilts, aI E 30 fa1_storeyTilts), (a0_storeyTilts, aI E 30 fa0_storeyTilts)]) [4, 5] hX (c_X2_copy l E a1_storeyKinds a0_storeyKinds 30 (by decide) fa1_storeyKinds fa0_storeyKinds) B_X2_copy w_2_227 hK hP hD hS hA (by decide) rfl rfl rfl rfl hl.1 rfl (Nat.le_of_ble_eq_true rfl) ⟨Nat.le_of_ble_eq_true rfl, Nat.le_of_ble_eq_true rfl⟩ dX3_copyFrom_35 rfl (fun H locs hP hD hS => W.pc 38 rfl ?_)
  refine lv_aload_n hx hb dX3_copyFrom_38 rfl (lv_at hl 1 rfl) (W.pc 39 rfl ?_)
  refine va_get (D := E.1) (ci := 1) (v := .ref a1_storeyTilts) (C := RX3) (T := TX3) (N := 5) hx hb hts inT_X3 hown hK hP 1 rfl rfl 4 (by decide) (hts _ w_1_48) (fun _ h9 => h9) rfl dX3_copyFrom_39 (W.pc 42 rfl ?_)
  refine lv_aload_n hx hb dX3_copyFrom_42 rfl (lv_at hl 0 rfl) (W.pc 43 rfl ?_)
  refine va_get (D := E.1) (ci := 1) (v := .ref a0_storeyTilts) (C := RX3) (T := TX3) (N := 5) hx hb hts inT_X3 hown hK hP 0 rfl rfl 4 (by decide) (hts _ w_1_48) (fun _ h9 => h9) rfl dX3_copyFrom_43 (W.pc 46 rfl ?_)
  refine kSW (st1 := []) (ws' := [(a0, .inr (1, [.int a1_off, .int a1_year, .ref a0_heights, .ref a0_storeyKinds, .ref a0_storeyTilts])), (a1, .inr (1, [.int a1_off, .int a1_year, .ref a1_heights, .ref a1_storeyKinds, .ref a1_storeyTilts])), (a1_heights, aI E 6 fa1_heights), (a0_heights, aI E 6 fa1_heights), (a1_storeyKinds, aI E 30 fa1_storeyKinds), (a0_storeyKinds, aI E 30 fa1_storeyKinds), (a1_storeyTilts, aI E 30 fa1_storeyTilts), (a0_storeyTilts, aI E 30 fa1_storeyTilts)]) [6, 7] hX (c_X2_copy l E a1_storeyTilts a0_storeyTilts 30 (by decide) fa1_storeyTilts fa0_storeyTilts) B_X2_copy w_2_227 hK hP hD hS hA (by decide) rfl rfl rfl rfl hl.1 rfl (Nat.le_of_ble_eq_true rfl) ⟨Nat.le_of_ble_eq_true rfl, Nat.le_of_ble_eq_true rfl⟩ dX3_copyFrom_46 rfl (fun H locs hP hD hS => W.pc 49 rfl ?_)
  exact rWv hX hP hS rfl dX3_copyFrom_49
