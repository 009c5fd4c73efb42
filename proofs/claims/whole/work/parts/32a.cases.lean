theorem lg_self (r : Int64) : lg_cmp r r = 0 := by unfold lg_cmp; simp
theorem CW_fst {E : wE} {ad : Nat → Nat} {s s' : CSt} (h1 : s'.2.2.2.2.2.1 = s.2.2.2.2.2.1) (h2 : s'.2.2.2.2.2.2 = s.2.2.2.2.2.2) : (CW E ad s').map Prod.fst = (CW E ad s).map Prod.fst := by
  obtain ⟨a1, a2, a3, a4, a5, a6, a7⟩ := s
  obtain ⟨b1, b2, b3, b4, b5, b6, b7⟩ := s'
  simp only at h1 h2
  subst h1; subst h2
  rfl
theorem S7_read_ad {s : CSt} {r : Int32} {s' : CSt} (h : S7_read s = some (r, s')) : s'.2.2.2.2.2.1 = s.2.2.2.2.2.1 ∧ s'.2.2.2.2.2.2 = s.2.2.2.2.2.2 := by
  unfold S7_read at h
  obtain ⟨z, hz, h⟩ := bd_s h
  obtain ⟨rfl, rfl⟩ := Prod.mk.inj (Option.some.inj h)
  exact ⟨rfl, rfl⟩
set_option maxHeartbeats 4000000 in
set_option maxRecDepth 100000 in
theorem law_0 {p : Program} {l : Launch} {e : Env} {s : State} {m : MethodId} {below : List Frame} {meth : Method} {c : Code} {b L : Nat} {xs : Nat → Int32} {REL : CSt → MSt → Prop} (hst : ∀ (p1 : Int32) (s : CSt) (t : MSt), REL s t → ∃ (r : Int32) (s1 : CSt) (t1 : MSt), S7_town p1 s = some (r, s1) ∧ S8_town p1 t = some (r, t1) ∧ REL s1 t1) (C0 : lw_At p s m meth c b L xs) {x3 : Int32} (hin : ∀ j : Nat, j < 6 → vp_in (x3 + nI j) L) {E : wE} {Z : sE} (hK : wK E s) (hF : SF Z (fun q : Nat => s.heap.size ≤ q) s s.heap) {ad md : Nat → Nat} {s0 : CSt} {t0 : MSt} (hR : REL s0 t0) (K : ∀ (s1 : CSt) (t1 : MSt), REL s1 t1 → ∀ (H : Heap) (locs : List Loc) (ls : Array Slot), wP E (CW E ad s1) H → wP E (MWd E md t1) H → va_D (fun q : Nat => s.heap.size ≤ q) (CW E ad s1 ++ MWd E md t1) → va_S (fun q : Nat => s.heap.size ≤ q) s.heap H locs → lv_has ls 4 [(0, .ref b), (1, .ref (ad 0)), (2, .ref (md 0)), (3, .int x3)] → W p l e room_1 s m #[Value.ref b] below meth c H locs 200 6980 (lw_Z below #[Value.ref b] s) (F0 m 1216 ls [])) : ∀ (H : Heap) (locs : List Loc) (ls : Array Slot), wP E (CW E ad s0) H → wP E (MWd E md t0) H → va_D (fun q : Nat => s.heap.size ≤ q) (CW E ad s0 ++ MWd E md t0) → va_S (fun q : Nat => s.heap.size ≤ q) s.heap H locs → lv_has ls 4 [(0, .ref b), (1, .ref (ad 0)), (2, .ref (md 0)), (3, .int x3)] → W p l e room_1 s m #[Value.ref b] below meth c H locs 200 6980 (lw_Z below #[Value.ref b] s) (F0 m 200 ls []) := by
  intro H locs ls hPa hPb hD hS hl
  obtain ⟨hx, hb, hr, hml, hown, hts, hX0, hbl, hlocks, hgv⟩ := C0
  have hA : ∀ q : Nat, s.heap.size ≤ q → (fun q : Nat => s.heap.size ≤ q) q := fun _ h => h
  have hbA : ¬ (fun q : Nat => s.heap.size ≤ q) b := Nat.not_le.mpr hbl
  have hX : CX p s m #[Value.ref b] meth c code 4 ret RL := ⟨hx, hb, hr, hml, fun w hw => hts w (List.mem_filter.mp hw).1, hown, hlocks, wN.of (fun w hw => hts w (List.mem_append_right _ hw))⟩
  obtain ⟨r, s1, t1, h7, h8, hR1⟩ := hst (xs (x3 + (1 : Int32)).toNatClampNeg) s0 t0 hR
  refine lv_aload_n hx hb dL_law_200 rfl (lv_at hl 1 rfl) (W.pc 201 rfl ?_)
  refine lv_aload_n hx hb dL_law_201 rfl (lv_at hl 0 rfl) (W.pc 202 rfl ?_)
  refine lv_iload_n hx hb dL_law_202 rfl (lv_at hl 3 rfl) (W.pc 203 rfl ?_)
  refine lv_iconst (v := (1 : Int32)) hx hb dL_law_203 (by decide) (W.pc 204 rfl ?_)
  refine lv_iadd hx hb dL_law_204 (W.pc 205 rfl ?_)
  refine va_sld hx hb hX0 hbl hbA hS (hin 1 (by decide)) dL_law_205 (W.pc 206 rfl ?_)
  refine kVl (st1 := [.int r]) hX (L7_town l E ad (xs (x3 + (1 : Int32)).toNatClampNeg) s0 r s1 h7) B_X7_town w_1_224 hK hPa hPb hD hS hA (q0 := 0) (ci := 4) rfl rfl rfl rfl hl.1 rfl (Nat.le_of_ble_eq_true rfl) ⟨Nat.le_of_ble_eq_true rfl, Nat.le_of_ble_eq_true rfl⟩ ⟨Nat.le_of_ble_eq_true rfl, Nat.le_of_ble_eq_true rfl⟩ dL_law_206 rfl (fun H locs hPa hPb hD hS => W.pc 209 rfl ?_)
  refine lv_aload_n hx hb dL_law_209 rfl (lv_at hl 2 rfl) (W.pc 210 rfl ?_)
  refine lv_aload_n hx hb dL_law_210 rfl (lv_at hl 0 rfl) (W.pc 211 rfl ?_)
  refine lv_iload_n hx hb dL_law_211 rfl (lv_at hl 3 rfl) (W.pc 212 rfl ?_)
  refine lv_iconst (v := (1 : Int32)) hx hb dL_law_212 (by decide) (W.pc 213 rfl ?_)
  refine lv_iadd hx hb dL_law_213 (W.pc 214 rfl ?_)
  refine va_sld hx hb hX0 hbl hbA hS (hin 1 (by decide)) dL_law_214 (W.pc 215 rfl ?_)
  refine kVr (st1 := [.int r, .int r]) hX (L8_town l E md (xs (x3 + (1 : Int32)).toNatClampNeg) t0 r t1 h8) B_X8_town w_4_118 hK hPa hPb hD hS hA (q0 := 0) (ci := 5) rfl rfl rfl rfl hl.1 rfl (Nat.le_of_ble_eq_true rfl) ⟨Nat.le_of_ble_eq_true rfl, Nat.le_of_ble_eq_true rfl⟩ ⟨Nat.le_of_ble_eq_true rfl, Nat.le_of_ble_eq_true rfl⟩ dL_law_215 rfl (fun H locs hPa hPb hD hS => W.pc 218 rfl ?_)
  refine lv_icmp_eq (tgt := 1216) hx hb dL_law_218 (by decide) (fun _ => ?_) (fun q => absurd rfl q)
  exact K s1 t1 hR1 _ _ _ hPa hPb hD hS hl
set_option maxHeartbeats 4000000 in
set_option maxRecDepth 100000 in
theorem law_1 {p : Program} {l : Launch} {e : Env} {s : State} {m : MethodId} {below : List Frame} {meth : Method} {c : Code} {b L : Nat} {xs : Nat → Int32} {REL : CSt → MSt → Prop} (hst : ∀ (p1 p2 : Int32) (s : CSt) (t : MSt), REL s t → ∃ (r : Int32) (s1 : CSt) (t1 : MSt), S7_pull p1 p2 s = some (r, s1) ∧ S8_pull p1 p2 t = some (r, t1) ∧ REL s1 t1) (C0 : lw_At p s m meth c b L xs) {x3 : Int32} (hin : ∀ j : Nat, j < 6 → vp_in (x3 + nI j) L) {E : wE} {Z : sE} (hK : wK E s) (hF : SF Z (fun q : Nat => s.heap.size ≤ q) s s.heap) {ad md : Nat → Nat} {s0 : CSt} {t0 : MSt} (hR : REL s0 t0) (K : ∀ (s1 : CSt) (t1 : MSt), REL s1 t1 → ∀ (H : Heap) (locs : List Loc) (ls : Array Slot), wP E (CW E ad s1) H → wP E (MWd E md t1) H → va_D (fun q : Nat => s.heap.size ≤ q) (CW E ad s1 ++ MWd E md t1) → va_S (fun q : Nat => s.heap.size ≤ q) s.heap H locs → lv_has ls 4 [(0, .ref b), (1, .ref (ad 0)), (2, .ref (md 0)), (3, .int x3)] → W p l e room_1 s m #[Value.ref b] below meth c H locs 200 6980 (lw_Z below #[Value.ref b] s) (F0 m 1216 ls [])) : ∀ (H : Heap) (locs : List Loc) (ls : Array Slot), wP E (CW E ad s0) H → wP E (MWd E md t0) H → va_D (fun q : Nat => s.heap.size ≤ q) (CW E ad s0 ++ MWd E md t0) → va_S (fun q : Nat => s.heap.size ≤ q) s.heap H locs → lv_has ls 4 [(0, .ref b), (1, .ref (ad 0)), (2, .ref (md 0)), (3, .int x3)] → W p l e room_1 s m #[Value.ref b] below meth c H locs 200 6980 (lw_Z below #[Value.ref b] s) (F0 m 223 ls []) := by
  intro H locs ls hPa hPb hD hS hl
  obtain ⟨hx, hb, hr, hml, hown, hts, hX0, hbl, hlocks, hgv⟩ := C0
  have hA : ∀ q : Nat, s.heap.size ≤ q → (fun q : Nat => s.heap.size ≤ q) q := fun _ h => h
  have hbA : ¬ (fun q : Nat => s.heap.size ≤ q) b := Nat.not_le.mpr hbl
  have hX : CX p s m #[Value.ref b] meth c code 4 ret RL := ⟨hx, hb, hr, hml, fun w hw => hts w (List.mem_filter.mp hw).1, hown, hlocks, wN.of (fun w hw => hts w (List.mem_append_right _ hw))⟩
  obtain ⟨r, s1, t1, h7, h8, hR1⟩ := hst (xs (x3 + (1 : Int32)).toNatClampNeg) (xs (x3 + (2 : Int32)).toNatClampNeg) s0 t0 hR
  refine lv_aload_n hx hb dL_law_223 rfl (lv_at hl 1 rfl) (W.pc 224 rfl ?_)
  refine lv_aload_n hx hb dL_law_224 rfl (lv_at hl 0 rfl) (W.pc 225 rfl ?_)
  refine lv_iload_n hx hb dL_law_225 rfl (lv_at hl 3 rfl) (W.pc 226 rfl ?_)
  refine lv_iconst (v := (1 : Int32)) hx hb dL_law_226 (by decide) (W.pc 227 rfl ?_)
  refine lv_iadd hx hb dL_law_227 (W.pc 228 rfl ?_)
  refine va_sld hx hb hX0 hbl hbA hS (hin 1 (by decide)) dL_law_228 (W.pc 229 rfl ?_)
  refine lv_aload_n hx hb dL_law_229 rfl (lv_at hl 0 rfl) (W.pc 230 rfl ?_)
  refine lv_iload_n hx hb dL_law_230 rfl (lv_at hl 3 rfl) (W.pc 231 rfl ?_)
  refine lv_iconst (v := (2 : Int32)) hx hb dL_law_231 (by decide) (W.pc 232 rfl ?_)
  refine lv_iadd hx hb dL_law_232 (W.pc 233 rfl ?_)
  refine va_sld hx hb hX0 hbl hbA hS (hin 2 (by decide)) dL_law_233 (W.pc 234 rfl ?_)
  refine kVl (st1 := [.int r]) hX (L7_pull l E ad (xs (x3 + (1 : Int32)).toNatClampNeg) (xs (x3 + (2 : Int32)).toNatClampNeg) s0 r s1 h7) B_X7_pull w_2_21 hK hPa hPb hD hS hA (q0 := 0) (ci := 4) rfl rfl rfl rfl hl.1 rfl (Nat.le_of_ble_eq_true rfl) ⟨Nat.le_of_ble_eq_true rfl, Nat.le_of_ble_eq_true rfl⟩ ⟨Nat.le_of_ble_eq_true rfl, Nat.le_of_ble_eq_true rfl⟩ dL_law_234 rfl (fun H locs hPa hPb hD hS => W.pc 237 rfl ?_)
  refine lv_aload_n hx hb dL_law_237 rfl (lv_at hl 2 rfl) (W.pc 238 rfl ?_)
  refine lv_aload_n hx hb dL_law_238 rfl (lv_at hl 0 rfl) (W.pc 239 rfl ?_)
  refine lv_iload_n hx hb dL_law_239 rfl (lv_at hl 3 rfl) (W.pc 240 rfl ?_)
  refine lv_iconst (v := (1 : Int32)) hx hb dL_law_240 (by decide) (W.pc 241 rfl ?_)
  refine lv_iadd hx hb dL_law_241 (W.pc 242 rfl ?_)
  refine va_sld hx hb hX0 hbl hbA hS (hin 1 (by decide)) dL_law_242 (W.pc 243 rfl ?_)
  refine lv_aload_n hx hb dL_law_243 rfl (lv_at hl 0 rfl) (W.pc 244 rfl ?_)
  refine lv_iload_n hx hb dL_law_244 rfl (lv_at hl 3 rfl) (W.pc 245 rfl ?_)
  refine lv_iconst (v := (2 : Int32)) hx hb dL_law_245 (by decide) (W.pc 246 rfl ?_)
  refine lv_iadd hx hb dL_law_246 (W.pc 247 rfl ?_)
  refine va_sld hx hb hX0 hbl hbA hS (hin 2 (by decide)) dL_law_247 (W.pc 248 rfl ?_)
  refine kVr (st1 := [.int r, .int r]) hX (L8_pull l E md (xs (x3 + (1 : Int32)).toNatClampNeg) (xs (x3 + (2 : Int32)).toNatClampNeg) t0 r t1 h8) B_X8_pull w_4_138 hK hPa hPb hD hS hA (q0 := 0) (ci := 5) rfl rfl rfl rfl hl.1 rfl (Nat.le_of_ble_eq_true rfl) ⟨Nat.le_of_ble_eq_true rfl, Nat.le_of_ble_eq_true rfl⟩ ⟨Nat.le_of_ble_eq_true rfl, Nat.le_of_ble_eq_true rfl⟩ dL_law_248 rfl (fun H locs hPa hPb hD hS => W.pc 251 rfl ?_)
  refine lv_icmp_eq (tgt := 1216) hx hb dL_law_251 (by decide) (fun _ => ?_) (fun q => absurd rfl q)
  exact K s1 t1 hR1 _ _ _ hPa hPb hD hS hl
set_option maxHeartbeats 4000000 in
set_option maxRecDepth 100000 in
theorem law_2 {p : Program} {l : Launch} {e : Env} {s : State} {m : MethodId} {below : List Frame} {meth : Method} {c : Code} {b L : Nat} {xs : Nat → Int32} {REL : CSt → MSt → Prop} (hst : ∀ (p1 : Int32) (s : CSt) (t : MSt), REL s t → ∃ (r : Int32) (s1 : CSt) (t1 : MSt), S7_member p1 s = some (r, s1) ∧ S8_member p1 t = some (r, t1) ∧ REL s1 t1) (C0 : lw_At p s m meth c b L xs) {x3 : Int32} (hin : ∀ j : Nat, j < 6 → vp_in (x3 + nI j) L) {E : wE} {Z : sE} (hK : wK E s) (hF : SF Z (fun q : Nat => s.heap.size ≤ q) s s.heap) {ad md : Nat → Nat} {s0 : CSt} {t0 : MSt} (hR : REL s0 t0) (K : ∀ (s1 : CSt) (t1 : MSt), REL s1 t1 → ∀ (H : Heap) (locs : List Loc) (ls : Array Slot), wP E (CW E ad s1) H → wP E (MWd E md t1) H → va_D (fun q : Nat => s.heap.size ≤ q) (CW E ad s1 ++ MWd E md t1) → va_S (fun q : Nat => s.heap.size ≤ q) s.heap H locs → lv_has ls 4 [(0, .ref b), (1, .ref (ad 0)), (2, .ref (md 0)), (3, .int x3)] → W p l e room_1 s m #[Value.ref b] below meth c H locs 200 6980 (lw_Z below #[Value.ref b] s) (F0 m 1216 ls [])) : ∀ (H : Heap) (locs : List Loc) (ls : Array Slot), wP E (CW E ad s0) H → wP E (MWd E md t0) H → va_D (fun q : Nat => s.heap.size ≤ q) (CW E ad s0 ++ MWd E md t0) → va_S (fun q : Nat => s.heap.size ≤ q) s.heap H locs → lv_has ls 4 [(0, .ref b), (1, .ref (ad 0)), (2, .ref (md 0)), (3, .int x3)] → W p l e room_1 s m #[Value.ref b] below meth c H locs 200 6980 (lw_Z below #[Value.ref b] s) (F0 m 256 ls []) := by
  intro H locs ls hPa hPb hD hS hl
  obtain ⟨hx, hb, hr, hml, hown, hts, hX0, hbl, hlocks, hgv⟩ := C0
  have hA : ∀ q : Nat, s.heap.size ≤ q → (fun q : Nat => s.heap.size ≤ q) q := fun _ h => h
  have hbA : ¬ (fun q : Nat => s.heap.size ≤ q) b := Nat.not_le.mpr hbl
  have hX : CX p s m #[Value.ref b] meth c code 4 ret RL := ⟨hx, hb, hr, hml, fun w hw => hts w (List.mem_filter.mp hw).1, hown, hlocks, wN.of (fun w hw => hts w (List.mem_append_right _ hw))⟩
  obtain ⟨r, s1, t1, h7, h8, hR1⟩ := hst (xs (x3 + (1 : Int32)).toNatClampNeg) s0 t0 hR
  refine lv_aload_n hx hb dL_law_256 rfl (lv_at hl 1 rfl) (W.pc 257 rfl ?_)
  refine lv_aload_n hx hb dL_law_257 rfl (lv_at hl 0 rfl) (W.pc 258 rfl ?_)
  refine lv_iload_n hx hb dL_law_258 rfl (lv_at hl 3 rfl) (W.pc 259 rfl ?_)
  refine lv_iconst (v := (1 : Int32)) hx hb dL_law_259 (by decide) (W.pc 260 rfl ?_)
  refine lv_iadd hx hb dL_law_260 (W.pc 261 rfl ?_)
  refine va_sld hx hb hX0 hbl hbA hS (hin 1 (by decide)) dL_law_261 (W.pc 262 rfl ?_)
  refine kVl (st1 := [.int r]) hX (L7_member l E ad (xs (x3 + (1 : Int32)).toNatClampNeg) s0 r s1 h7) B_X7_member w_2_32 hK hPa hPb hD hS hA (q0 := 0) (ci := 4) rfl rfl rfl rfl hl.1 rfl (Nat.le_of_ble_eq_true rfl) ⟨Nat.le_of_ble_eq_true rfl, Nat.le_of_ble_eq_true rfl⟩ ⟨Nat.le_of_ble_eq_true rfl, Nat.le_of_ble_eq_true rfl⟩ dL_law_262 rfl (fun H locs hPa hPb hD hS => W.pc 265 rfl ?_)
  refine lv_aload_n hx hb dL_law_265 rfl (lv_at hl 2 rfl) (W.pc 266 rfl ?_)
  refine lv_aload_n hx hb dL_law_266 rfl (lv_at hl 0 rfl) (W.pc 267 rfl ?_)
  refine lv_iload_n hx hb dL_law_267 rfl (lv_at hl 3 rfl) (W.pc 268 rfl ?_)
  refine lv_iconst (v := (1 : Int32)) hx hb dL_law_268 (by decide) (W.pc 269 rfl ?_)
  refine lv_iadd hx hb dL_law_269 (W.pc 270 rfl ?_)
  refine va_sld hx hb hX0 hbl hbA hS (hin 1 (by decide)) dL_law_270 (W.pc 271 rfl ?_)
  refine kVr (st1 := [.int r, .int r]) hX (L8_member l E md (xs (x3 + (1 : Int32)).toNatClampNeg) t0 r t1 h8) B_X8_member w_4_152 hK hPa hPb hD hS hA (q0 := 0) (ci := 5) rfl rfl rfl rfl hl.1 rfl (Nat.le_of_ble_eq_true rfl) ⟨Nat.le_of_ble_eq_true rfl, Nat.le_of_ble_eq_true rfl⟩ ⟨Nat.le_of_ble_eq_true rfl, Nat.le_of_ble_eq_true rfl⟩ dL_law_271 rfl (fun H locs hPa hPb hD hS => W.pc 274 rfl ?_)
  refine lv_icmp_eq (tgt := 1216) hx hb dL_law_274 (by decide) (fun _ => ?_) (fun q => absurd rfl q)
  exact K s1 t1 hR1 _ _ _ hPa hPb hD hS hl
set_option maxHeartbeats 4000000 in
set_option maxRecDepth 100000 in
theorem law_3 {p : Program} {l : Launch} {e : Env} {s : State} {m : MethodId} {below : List Frame} {meth : Method} {c : Code} {b L : Nat} {xs : Nat → Int32} {REL : CSt → MSt → Prop} (hst : ∀ (p1 : Int32) (s : CSt) (t : MSt), REL s t → ∃ (r : Int32) (s1 : CSt) (t1 : MSt), S7_type p1 s = some (r, s1) ∧ S8_type p1 t = some (r, t1) ∧ REL s1 t1) (C0 : lw_At p s m meth c b L xs) {x3 : Int32} (hin : ∀ j : Nat, j < 6 → vp_in (x3 + nI j) L) {E : wE} {Z : sE} (hK : wK E s) (hF : SF Z (fun q : Nat => s.heap.size ≤ q) s s.heap) {ad md : Nat → Nat} {s0 : CSt} {t0 : MSt} (hR : REL s0 t0) (K : ∀ (s1 : CSt) (t1 : MSt), REL s1 t1 → ∀ (H : Heap) (locs : List Loc) (ls : Array Slot), wP E (CW E ad s1) H → wP E (MWd E md t1) H → va_D (fun q : Nat => s.heap.size ≤ q) (CW E ad s1 ++ MWd E md t1) → va_S (fun q : Nat => s.heap.size ≤ q) s.heap H locs → lv_has ls 4 [(0, .ref b), (1, .ref (ad 0)), (2, .ref (md 0)), (3, .int x3)] → W p l e room_1 s m #[Value.ref b] below meth c H locs 200 6980 (lw_Z below #[Value.ref b] s) (F0 m 1216 ls [])) : ∀ (H : Heap) (locs : List Loc) (ls : Array Slot), wP E (CW E ad s0) H → wP E (MWd E md t0) H → va_D (fun q : Nat => s.heap.size ≤ q) (CW E ad s0 ++ MWd E md t0) → va_S (fun q : Nat => s.heap.size ≤ q) s.heap H locs → lv_has ls 4 [(0, .ref b), (1, .ref (ad 0)), (2, .ref (md 0)), (3, .int x3)] → W p l e room_1 s m #[Value.ref b] below meth c H locs 200 6980 (lw_Z below #[Value.ref b] s) (F0 m 279 ls []) := by
  intro H locs ls hPa hPb hD hS hl
  obtain ⟨hx, hb, hr, hml, hown, hts, hX0, hbl, hlocks, hgv⟩ := C0
  have hA : ∀ q : Nat, s.heap.size ≤ q → (fun q : Nat => s.heap.size ≤ q) q := fun _ h => h
  have hbA : ¬ (fun q : Nat => s.heap.size ≤ q) b := Nat.not_le.mpr hbl
  have hX : CX p s m #[Value.ref b] meth c code 4 ret RL := ⟨hx, hb, hr, hml, fun w hw => hts w (List.mem_filter.mp hw).1, hown, hlocks, wN.of (fun w hw => hts w (List.mem_append_right _ hw))⟩
  obtain ⟨r, s1, t1, h7, h8, hR1⟩ := hst (xs (x3 + (1 : Int32)).toNatClampNeg) s0 t0 hR
  refine lv_aload_n hx hb dL_law_279 rfl (lv_at hl 1 rfl) (W.pc 280 rfl ?_)
  refine lv_aload_n hx hb dL_law_280 rfl (lv_at hl 0 rfl) (W.pc 281 rfl ?_)
  refine lv_iload_n hx hb dL_law_281 rfl (lv_at hl 3 rfl) (W.pc 282 rfl ?_)
  refine lv_iconst (v := (1 : Int32)) hx hb dL_law_282 (by decide) (W.pc 283 rfl ?_)
  refine lv_iadd hx hb dL_law_283 (W.pc 284 rfl ?_)
  refine va_sld hx hb hX0 hbl hbA hS (hin 1 (by decide)) dL_law_284 (W.pc 285 rfl ?_)
  refine kVl (st1 := [.int r]) hX (L7_type l E ad (xs (x3 + (1 : Int32)).toNatClampNeg) s0 r s1 h7) B_X7_type w_2_40 hK hPa hPb hD hS hA (q0 := 0) (ci := 4) rfl rfl rfl rfl hl.1 rfl (Nat.le_of_ble_eq_true rfl) ⟨Nat.le_of_ble_eq_true rfl, Nat.le_of_ble_eq_true rfl⟩ ⟨Nat.le_of_ble_eq_true rfl, Nat.le_of_ble_eq_true rfl⟩ dL_law_285 rfl (fun H locs hPa hPb hD hS => W.pc 288 rfl ?_)
  refine lv_aload_n hx hb dL_law_288 rfl (lv_at hl 2 rfl) (W.pc 289 rfl ?_)
  refine lv_aload_n hx hb dL_law_289 rfl (lv_at hl 0 rfl) (W.pc 290 rfl ?_)
  refine lv_iload_n hx hb dL_law_290 rfl (lv_at hl 3 rfl) (W.pc 291 rfl ?_)
  refine lv_iconst (v := (1 : Int32)) hx hb dL_law_291 (by decide) (W.pc 292 rfl ?_)
  refine lv_iadd hx hb dL_law_292 (W.pc 293 rfl ?_)
  refine va_sld hx hb hX0 hbl hbA hS (hin 1 (by decide)) dL_law_293 (W.pc 294 rfl ?_)
  refine kVr (st1 := [.int r, .int r]) hX (L8_type l E md (xs (x3 + (1 : Int32)).toNatClampNeg) t0 r t1 h8) B_X8_type w_4_160 hK hPa hPb hD hS hA (q0 := 0) (ci := 5) rfl rfl rfl rfl hl.1 rfl (Nat.le_of_ble_eq_true rfl) ⟨Nat.le_of_ble_eq_true rfl, Nat.le_of_ble_eq_true rfl⟩ ⟨Nat.le_of_ble_eq_true rfl, Nat.le_of_ble_eq_true rfl⟩ dL_law_294 rfl (fun H locs hPa hPb hD hS => W.pc 297 rfl ?_)
  refine lv_icmp_eq (tgt := 1216) hx hb dL_law_297 (by decide) (fun _ => ?_) (fun q => absurd rfl q)
  exact K s1 t1 hR1 _ _ _ hPa hPb hD hS hl
set_option maxHeartbeats 4000000 in
set_option maxRecDepth 100000 in
theorem law_4 {p : Program} {l : Launch} {e : Env} {s : State} {m : MethodId} {below : List Frame} {meth : Method} {c : Code} {b L : Nat} {xs : Nat → Int32} {REL : CSt → MSt → Prop} (hst : ∀ (s : CSt) (t : MSt), REL s t → ∃ (r : Int32) (s1 : CSt) (t1 : MSt), S7_clear s = some (r, s1) ∧ S8_clear t = some (r, t1) ∧ REL s1 t1) (C0 : lw_At p s m meth c b L xs) {x3 : Int32} (hin : ∀ j : Nat, j < 6 → vp_in (x3 + nI j) L) {E : wE} {Z : sE} (hK : wK E s) (hF : SF Z (fun q : Nat => s.heap.size ≤ q) s s.heap) {ad md : Nat → Nat} {s0 : CSt} {t0 : MSt} (hR : REL s0 t0) (K : ∀ (s1 : CSt) (t1 : MSt), REL s1 t1 → ∀ (H : Heap) (locs : List Loc) (ls : Array Slot), wP E (CW E ad s1) H → wP E (MWd E md t1) H → va_D (fun q : Nat => s.heap.size ≤ q) (CW E ad s1 ++ MWd E md t1) → va_S (fun q : Nat => s.heap.size ≤ q) s.heap H locs → lv_has ls 4 [(0, .ref b), (1, .ref (ad 0)), (2, .ref (md 0)), (3, .int x3)] → W p l e room_1 s m #[Value.ref b] below meth c H locs 200 6980 (lw_Z below #[Value.ref b] s) (F0 m 1216 ls [])) : ∀ (H : Heap) (locs : List Loc) (ls : Array Slot), wP E (CW E ad s0) H → wP E (MWd E md t0) H → va_D (fun q : Nat => s.heap.size ≤ q) (CW E ad s0 ++ MWd E md t0) → va_S (fun q : Nat => s.heap.size ≤ q) s.heap H locs → lv_has ls 4 [(0, .ref b), (1, .ref (ad 0)), (2, .ref (md 0)), (3, .int x3)] → W p l e room_1 s m #[Value.ref b] below meth c H locs 200 6980 (lw_Z below #[Value.ref b] s) (F0 m 302 ls []) := by
  intro H locs ls hPa hPb hD hS hl
  obtain ⟨hx, hb, hr, hml, hown, hts, hX0, hbl, hlocks, hgv⟩ := C0
  have hA : ∀ q : Nat, s.heap.size ≤ q → (fun q : Nat => s.heap.size ≤ q) q := fun _ h => h
  have hbA : ¬ (fun q : Nat => s.heap.size ≤ q) b := Nat.not_le.mpr hbl
  have hX : CX p s m #[Value.ref b] meth c code 4 ret RL := ⟨hx, hb, hr, hml, fun w hw => hts w (List.mem_filter.mp hw).1, hown, hlocks, wN.of (fun w hw => hts w (List.mem_append_right _ hw))⟩
  obtain ⟨r, s1, t1, h7, h8, hR1⟩ := hst s0 t0 hR
  refine lv_aload_n hx hb dL_law_302 rfl (lv_at hl 1 rfl) (W.pc 303 rfl ?_)
  refine kVl (st1 := [.int r]) hX (L7_clear l E ad  s0 r s1 h7) B_X7_clear w_2_44 hK hPa hPb hD hS hA (q0 := 0) (ci := 4) rfl rfl rfl rfl hl.1 rfl (Nat.le_of_ble_eq_true rfl) ⟨Nat.le_of_ble_eq_true rfl, Nat.le_of_ble_eq_true rfl⟩ ⟨Nat.le_of_ble_eq_true rfl, Nat.le_of_ble_eq_true rfl⟩ dL_law_303 rfl (fun H locs hPa hPb hD hS => W.pc 306 rfl ?_)
  refine lv_aload_n hx hb dL_law_306 rfl (lv_at hl 2 rfl) (W.pc 307 rfl ?_)
  refine kVr (st1 := [.int r, .int r]) hX (L8_clear l E md  t0 r t1 h8) B_X8_clear w_4_164 hK hPa hPb hD hS hA (q0 := 0) (ci := 5) rfl rfl rfl rfl hl.1 rfl (Nat.le_of_ble_eq_true rfl) ⟨Nat.le_of_ble_eq_true rfl, Nat.le_of_ble_eq_true rfl⟩ ⟨Nat.le_of_ble_eq_true rfl, Nat.le_of_ble_eq_true rfl⟩ dL_law_307 rfl (fun H locs hPa hPb hD hS => W.pc 310 rfl ?_)
  refine lv_icmp_eq (tgt := 1216) hx hb dL_law_310 (by decide) (fun _ => ?_) (fun q => absurd rfl q)
  exact K s1 t1 hR1 _ _ _ hPa hPb hD hS hl
set_option maxHeartbeats 4000000 in
set_option maxRecDepth 100000 in
theorem law_5 {p : Program} {l : Launch} {e : Env} {s : State} {m : MethodId} {below : List Frame} {meth : Method} {c : Code} {b L : Nat} {xs : Nat → Int32} {REL : CSt → MSt → Prop} (hst : ∀ (s : CSt) (t : MSt), REL s t → ∃ (r : Int32) (s1 : CSt) (t1 : MSt), S7_read s = some (r, s1) ∧ S8_read t = some (r, t1) ∧ REL s1 t1) (C0 : lw_At p s m meth c b L xs) {x3 : Int32} (hin : ∀ j : Nat, j < 6 → vp_in (x3 + nI j) L) {E : wE} {Z : sE} (hK : wK E s) (hF : SF Z (fun q : Nat => s.heap.size ≤ q) s s.heap) {ad md : Nat → Nat} {s0 : CSt} {t0 : MSt} (hR : REL s0 t0) (K : ∀ (s1 : CSt) (t1 : MSt), REL s1 t1 → ∀ (H : Heap) (locs : List Loc) (ls : Array Slot), wP E (CW E ad s1) H → wP E (MWd E md t1) H → va_D (fun q : Nat => s.heap.size ≤ q) (CW E ad s1 ++ MWd E md t1) → va_S (fun q : Nat => s.heap.size ≤ q) s.heap H locs → lv_has ls 4 [(0, .ref b), (1, .ref (ad 0)), (2, .ref (md 0)), (3, .int x3)] → W p l e room_1 s m #[Value.ref b] below meth c H locs 200 6980 (lw_Z below #[Value.ref b] s) (F0 m 1216 ls [])) : ∀ (H : Heap) (locs : List Loc) (ls : Array Slot), wP E (CW E ad s0) H → wP E (MWd E md t0) H → va_D (fun q : Nat => s.heap.size ≤ q) (CW E ad s0 ++ MWd E md t0) → va_S (fun q : Nat => s.heap.size ≤ q) s.heap H locs → lv_has ls 4 [(0, .ref b), (1, .ref (ad 0)), (2, .ref (md 0)), (3, .int x3)] → W p l e room_1 s m #[Value.ref b] below meth c H locs 200 6980 (lw_Z below #[Value.ref b] s) (F0 m 315 ls []) := by
  intro H locs ls hPa hPb hD hS hl
  obtain ⟨hx, hb, hr, hml, hown, hts, hX0, hbl, hlocks, hgv⟩ := C0
  have hA : ∀ q : Nat, s.heap.size ≤ q → (fun q : Nat => s.heap.size ≤ q) q := fun _ h => h
  have hbA : ¬ (fun q : Nat => s.heap.size ≤ q) b := Nat.not_le.mpr hbl
  have hX : CX p s m #[Value.ref b] meth c code 4 ret RL := ⟨hx, hb, hr, hml, fun w hw => hts w (List.mem_filter.mp hw).1, hown, hlocks, wN.of (fun w hw => hts w (List.mem_append_right _ hw))⟩
  obtain ⟨r, s1, t1, h7, h8, hR1⟩ := hst s0 t0 hR
  refine lv_aload_n hx hb dL_law_315 rfl (lv_at hl 1 rfl) (W.pc 316 rfl ?_)
  refine kVls (st1 := [.int r]) hX (L7_read l E Z ad  s0 r s1 h7) (CW_fst (S7_read_ad h7).1 (S7_read_ad h7).2) B_X7_read w_2_48 hK (hF.kept hS.2.1) hPa hPb hD hS hA (q0 := 0) (ci := 4) rfl rfl rfl rfl hl.1 rfl (Nat.le_of_ble_eq_true rfl) ⟨Nat.le_of_ble_eq_true rfl, Nat.le_of_ble_eq_true rfl⟩ ⟨Nat.le_of_ble_eq_true rfl, Nat.le_of_ble_eq_true rfl⟩ dL_law_316 rfl (fun H locs hPa hPb hD hS => W.pc 319 rfl ?_)
  refine lv_aload_n hx hb dL_law_319 rfl (lv_at hl 2 rfl) (W.pc 320 rfl ?_)
  refine kVr (st1 := [.int r, .int r]) hX (L8_read l E md  t0 r t1 h8) B_X8_read w_4_168 hK hPa hPb hD hS hA (q0 := 0) (ci := 5) rfl rfl rfl rfl hl.1 rfl (Nat.le_of_ble_eq_true rfl) ⟨Nat.le_of_ble_eq_true rfl, Nat.le_of_ble_eq_true rfl⟩ ⟨Nat.le_of_ble_eq_true rfl, Nat.le_of_ble_eq_true rfl⟩ dL_law_320 rfl (fun H locs hPa hPb hD hS => W.pc 323 rfl ?_)
  refine lv_icmp_eq (tgt := 1216) hx hb dL_law_323 (by decide) (fun _ => ?_) (fun q => absurd rfl q)
  exact K s1 t1 hR1 _ _ _ hPa hPb hD hS hl
set_option maxHeartbeats 4000000 in
set_option maxRecDepth 100000 in
theorem law_6 {p : Program} {l : Launch} {e : Env} {s : State} {m : MethodId} {below : List Frame} {meth : Method} {c : Code} {b L : Nat} {xs : Nat → Int32} {REL : CSt → MSt → Prop} (hst : ∀ (p1 p2 p3 : Int32) (s : CSt) (t : MSt), REL s t → ∃ (r : Int32) (s1 : CSt) (t1 : MSt), S7_build p1 p2 p3 s = some (r, s1) ∧ S8_build p1 p2 p3 t = some (r, t1) ∧ REL s1 t1) (C0 : lw_At p s m meth c b L xs) {x3 : Int32} (hin : ∀ j : Nat, j < 6 → vp_in (x3 + nI j) L) {E : wE} {Z : sE} (hK : wK E s) (hF : SF Z (fun q : Nat => s.heap.size ≤ q) s s.heap) {ad md : Nat → Nat} {s0 : CSt} {t0 : MSt} (hR : REL s0 t0) (K : ∀ (s1 : CSt) (t1 : MSt), REL s1 t1 → ∀ (H : Heap) (locs : List Loc) (ls : Array Slot), wP E (CW E ad s1) H → wP E (MWd E md t1) H → va_D (fun q : Nat => s.heap.size ≤ q) (CW E ad s1 ++ MWd E md t1) → va_S (fun q : Nat => s.heap.size ≤ q) s.heap H locs → lv_has ls 4 [(0, .ref b), (1, .ref (ad 0)), (2, .ref (md 0)), (3, .int x3)] → W p l e room_1 s m #[Value.ref b] below meth c H locs 200 6980 (lw_Z below #[Value.ref b] s) (F0 m 1216 ls [])) : ∀ (H : Heap) (locs : List Loc) (ls : Array Slot), wP E (CW E ad s0) H → wP E (MWd E md t0) H → va_D (fun q : Nat => s.heap.size ≤ q) (CW E ad s0 ++ MWd E md t0) → va_S (fun q : Nat => s.heap.size ≤ q) s.heap H locs → lv_has ls 4 [(0, .ref b), (1, .ref (ad 0)), (2, .ref (md 0)), (3, .int x3)] → W p l e room_1 s m #[Value.ref b] below meth c H locs 200 6980 (lw_Z below #[Value.ref b] s) (F0 m 328 ls []) := by
  intro H locs ls hPa hPb hD hS hl
  obtain ⟨hx, hb, hr, hml, hown, hts, hX0, hbl, hlocks, hgv⟩ := C0
  have hA : ∀ q : Nat, s.heap.size ≤ q → (fun q : Nat => s.heap.size ≤ q) q := fun _ h => h
  have hbA : ¬ (fun q : Nat => s.heap.size ≤ q) b := Nat.not_le.mpr hbl
  have hX : CX p s m #[Value.ref b] meth c code 4 ret RL := ⟨hx, hb, hr, hml, fun w hw => hts w (List.mem_filter.mp hw).1, hown, hlocks, wN.of (fun w hw => hts w (List.mem_append_right _ hw))⟩
  obtain ⟨r, s1, t1, h7, h8, hR1⟩ := hst (xs (x3 + (1 : Int32)).toNatClampNeg) (xs (x3 + (2 : Int32)).toNatClampNeg) (xs (x3 + (3 : Int32)).toNatClampNeg) s0 t0 hR
  refine lv_aload_n hx hb dL_law_328 rfl (lv_at hl 1 rfl) (W.pc 329 rfl ?_)
  refine lv_aload_n hx hb dL_law_329 rfl (lv_at hl 0 rfl) (W.pc 330 rfl ?_)
  refine lv_iload_n hx hb dL_law_330 rfl (lv_at hl 3 rfl) (W.pc 331 rfl ?_)
  refine lv_iconst (v := (1 : Int32)) hx hb dL_law_331 (by decide) (W.pc 332 rfl ?_)
  refine lv_iadd hx hb dL_law_332 (W.pc 333 rfl ?_)
  refine va_sld hx hb hX0 hbl hbA hS (hin 1 (by decide)) dL_law_333 (W.pc 334 rfl ?_)
  refine lv_aload_n hx hb dL_law_334 rfl (lv_at hl 0 rfl) (W.pc 335 rfl ?_)
  refine lv_iload_n hx hb dL_law_335 rfl (lv_at hl 3 rfl) (W.pc 336 rfl ?_)
  refine lv_iconst (v := (2 : Int32)) hx hb dL_law_336 (by decide) (W.pc 337 rfl ?_)
  refine lv_iadd hx hb dL_law_337 (W.pc 338 rfl ?_)
  refine va_sld hx hb hX0 hbl hbA hS (hin 2 (by decide)) dL_law_338 (W.pc 339 rfl ?_)
  refine lv_aload_n hx hb dL_law_339 rfl (lv_at hl 0 rfl) (W.pc 340 rfl ?_)
  refine lv_iload_n hx hb dL_law_340 rfl (lv_at hl 3 rfl) (W.pc 341 rfl ?_)
  refine lv_iconst (v := (3 : Int32)) hx hb dL_law_341 (by decide) (W.pc 342 rfl ?_)
  refine lv_iadd hx hb dL_law_342 (W.pc 343 rfl ?_)
  refine va_sld hx hb hX0 hbl hbA hS (hin 3 (by decide)) dL_law_343 (W.pc 344 rfl ?_)
  refine kVl (st1 := [.int r]) hX (L7_build l E ad (xs (x3 + (1 : Int32)).toNatClampNeg) (xs (x3 + (2 : Int32)).toNatClampNeg) (xs (x3 + (3 : Int32)).toNatClampNeg) s0 r s1 h7) B_X7_build w_2_233 hK hPa hPb hD hS hA (q0 := 0) (ci := 4) rfl rfl rfl rfl hl.1 rfl (Nat.le_of_ble_eq_true rfl) ⟨Nat.le_of_ble_eq_true rfl, Nat.le_of_ble_eq_true rfl⟩ ⟨Nat.le_of_ble_eq_true rfl, Nat.le_of_ble_eq_true rfl⟩ dL_law_344 rfl (fun H locs hPa hPb hD hS => W.pc 347 rfl ?_)
  refine lv_aload_n hx hb dL_law_347 rfl (lv_at hl 2 rfl) (W.pc 348 rfl ?_)
  refine lv_aload_n hx hb dL_law_348 rfl (lv_at hl 0 rfl) (W.pc 349 rfl ?_)
  refine lv_iload_n hx hb dL_law_349 rfl (lv_at hl 3 rfl) (W.pc 350 rfl ?_)
  refine lv_iconst (v := (1 : Int32)) hx hb dL_law_350 (by decide) (W.pc 351 rfl ?_)
  refine lv_iadd hx hb dL_law_351 (W.pc 352 rfl ?_)
  refine va_sld hx hb hX0 hbl hbA hS (hin 1 (by decide)) dL_law_352 (W.pc 353 rfl ?_)
  refine lv_aload_n hx hb dL_law_353 rfl (lv_at hl 0 rfl) (W.pc 354 rfl ?_)
  refine lv_iload_n hx hb dL_law_354 rfl (lv_at hl 3 rfl) (W.pc 355 rfl ?_)
  refine lv_iconst (v := (2 : Int32)) hx hb dL_law_355 (by decide) (W.pc 356 rfl ?_)
  refine lv_iadd hx hb dL_law_356 (W.pc 357 rfl ?_)
  refine va_sld hx hb hX0 hbl hbA hS (hin 2 (by decide)) dL_law_357 (W.pc 358 rfl ?_)
  refine lv_aload_n hx hb dL_law_358 rfl (lv_at hl 0 rfl) (W.pc 359 rfl ?_)
  refine lv_iload_n hx hb dL_law_359 rfl (lv_at hl 3 rfl) (W.pc 360 rfl ?_)
  refine lv_iconst (v := (3 : Int32)) hx hb dL_law_360 (by decide) (W.pc 361 rfl ?_)
  refine lv_iadd hx hb dL_law_361 (W.pc 362 rfl ?_)
  refine va_sld hx hb hX0 hbl hbA hS (hin 3 (by decide)) dL_law_362 (W.pc 363 rfl ?_)
  refine kVr (st1 := [.int r, .int r]) hX (L8_build l E md (xs (x3 + (1 : Int32)).toNatClampNeg) (xs (x3 + (2 : Int32)).toNatClampNeg) (xs (x3 + (3 : Int32)).toNatClampNeg) t0 r t1 h8) B_X8_build w_5_18 hK hPa hPb hD hS hA (q0 := 0) (ci := 5) rfl rfl rfl rfl hl.1 rfl (Nat.le_of_ble_eq_true rfl) ⟨Nat.le_of_ble_eq_true rfl, Nat.le_of_ble_eq_true rfl⟩ ⟨Nat.le_of_ble_eq_true rfl, Nat.le_of_ble_eq_true rfl⟩ dL_law_363 rfl (fun H locs hPa hPb hD hS => W.pc 366 rfl ?_)
  refine lv_icmp_eq (tgt := 1216) hx hb dL_law_366 (by decide) (fun _ => ?_) (fun q => absurd rfl q)
  exact K s1 t1 hR1 _ _ _ hPa hPb hD hS hl
set_option maxHeartbeats 4000000 in
set_option maxRecDepth 100000 in
theorem law_7 {p : Program} {l : Launch} {e : Env} {s : State} {m : MethodId} {below : List Frame} {meth : Method} {c : Code} {b L : Nat} {xs : Nat → Int32} {REL : CSt → MSt → Prop} (hst : ∀ (p1 : Int32) (s : CSt) (t : MSt), REL s t → ∃ (r : Int32) (s1 : CSt) (t1 : MSt), S7_year p1 s = some (r, s1) ∧ S8_year p1 t = some (r, t1) ∧ REL s1 t1) (C0 : lw_At p s m meth c b L xs) {x3 : Int32} (hin : ∀ j : Nat, j < 6 → vp_in (x3 + nI j) L) {E : wE} {Z : sE} (hK : wK E s) (hF : SF Z (fun q : Nat => s.heap.size ≤ q) s s.heap) {ad md : Nat → Nat} {s0 : CSt} {t0 : MSt} (hR : REL s0 t0) (K : ∀ (s1 : CSt) (t1 : MSt), REL s1 t1 → ∀ (H : Heap) (locs : List Loc) (ls : Array Slot), wP E (CW E ad s1) H → wP E (MWd E md t1) H → va_D (fun q : Nat => s.heap.size ≤ q) (CW E ad s1 ++ MWd E md t1) → va_S (fun q : Nat => s.heap.size ≤ q) s.heap H locs → lv_has ls 4 [(0, .ref b), (1, .ref (ad 0)), (2, .ref (md 0)), (3, .int x3)] → W p l e room_1 s m #[Value.ref b] below meth c H locs 200 6980 (lw_Z below #[Value.ref b] s) (F0 m 1216 ls [])) : ∀ (H : Heap) (locs : List Loc) (ls : Array Slot), wP E (CW E ad s0) H → wP E (MWd E md t0) H → va_D (fun q : Nat => s.heap.size ≤ q) (CW E ad s0 ++ MWd E md t0) → va_S (fun q : Nat => s.heap.size ≤ q) s.heap H locs → lv_has ls 4 [(0, .ref b), (1, .ref (ad 0)), (2, .ref (md 0)), (3, .int x3)] → W p l e room_1 s m #[Value.ref b] below meth c H locs 200 6980 (lw_Z below #[Value.ref b] s) (F0 m 371 ls []) := by
  intro H locs ls hPa hPb hD hS hl
  obtain ⟨hx, hb, hr, hml, hown, hts, hX0, hbl, hlocks, hgv⟩ := C0
  have hA : ∀ q : Nat, s.heap.size ≤ q → (fun q : Nat => s.heap.size ≤ q) q := fun _ h => h
  have hbA : ¬ (fun q : Nat => s.heap.size ≤ q) b := Nat.not_le.mpr hbl
  have hX : CX p s m #[Value.ref b] meth c code 4 ret RL := ⟨hx, hb, hr, hml, fun w hw => hts w (List.mem_filter.mp hw).1, hown, hlocks, wN.of (fun w hw => hts w (List.mem_append_right _ hw))⟩
  obtain ⟨r, s1, t1, h7, h8, hR1⟩ := hst (xs (x3 + (1 : Int32)).toNatClampNeg) s0 t0 hR
  refine lv_aload_n hx hb dL_law_371 rfl (lv_at hl 1 rfl) (W.pc 372 rfl ?_)
  refine lv_aload_n hx hb dL_law_372 rfl (lv_at hl 0 rfl) (W.pc 373 rfl ?_)
  refine lv_iload_n hx hb dL_law_373 rfl (lv_at hl 3 rfl) (W.pc 374 rfl ?_)
  refine lv_iconst (v := (1 : Int32)) hx hb dL_law_374 (by decide) (W.pc 375 rfl ?_)
  refine lv_iadd hx hb dL_law_375 (W.pc 376 rfl ?_)
  refine va_sld hx hb hX0 hbl hbA hS (hin 1 (by decide)) dL_law_376 (W.pc 377 rfl ?_)
  refine kVl (st1 := [.int r]) hX (L7_year l E ad (xs (x3 + (1 : Int32)).toNatClampNeg) s0 r s1 h7) B_X7_year w_3_17 hK hPa hPb hD hS hA (q0 := 0) (ci := 4) rfl rfl rfl rfl hl.1 rfl (Nat.le_of_ble_eq_true rfl) ⟨Nat.le_of_ble_eq_true rfl, Nat.le_of_ble_eq_true rfl⟩ ⟨Nat.le_of_ble_eq_true rfl, Nat.le_of_ble_eq_true rfl⟩ dL_law_377 rfl (fun H locs hPa hPb hD hS => W.pc 380 rfl ?_)
  refine lv_aload_n hx hb dL_law_380 rfl (lv_at hl 2 rfl) (W.pc 381 rfl ?_)
  refine lv_aload_n hx hb dL_law_381 rfl (lv_at hl 0 rfl) (W.pc 382 rfl ?_)
  refine lv_iload_n hx hb dL_law_382 rfl (lv_at hl 3 rfl) (W.pc 383 rfl ?_)
  refine lv_iconst (v := (1 : Int32)) hx hb dL_law_383 (by decide) (W.pc 384 rfl ?_)
  refine lv_iadd hx hb dL_law_384 (W.pc 385 rfl ?_)
  refine va_sld hx hb hX0 hbl hbA hS (hin 1 (by decide)) dL_law_385 (W.pc 386 rfl ?_)
  refine kVr (st1 := [.int r, .int r]) hX (L8_year l E md (xs (x3 + (1 : Int32)).toNatClampNeg) t0 r t1 h8) B_X8_year w_5_26 hK hPa hPb hD hS hA (q0 := 0) (ci := 5) rfl rfl rfl rfl hl.1 rfl (Nat.le_of_ble_eq_true rfl) ⟨Nat.le_of_ble_eq_true rfl, Nat.le_of_ble_eq_true rfl⟩ ⟨Nat.le_of_ble_eq_true rfl, Nat.le_of_ble_eq_true rfl⟩ dL_law_386 rfl (fun H locs hPa hPb hD hS => W.pc 389 rfl ?_)
  refine lv_icmp_eq (tgt := 1216) hx hb dL_law_389 (by decide) (fun _ => ?_) (fun q => absurd rfl q)
  exact K s1 t1 hR1 _ _ _ hPa hPb hD hS hl
set_option maxHeartbeats 4000000 in
set_option maxRecDepth 100000 in
theorem law_8 {p : Program} {l : Launch} {e : Env} {s : State} {m : MethodId} {below : List Frame} {meth : Method} {c : Code} {b L : Nat} {xs : Nat → Int32} {REL : CSt → MSt → Prop} (hst : ∀ (s : CSt) (t : MSt), REL s t → ∃ (r : Int32) (s1 : CSt) (t1 : MSt), S7_undo s = some (r, s1) ∧ S8_undo t = some (r, t1) ∧ REL s1 t1) (C0 : lw_At p s m meth c b L xs) {x3 : Int32} (hin : ∀ j : Nat, j < 6 → vp_in (x3 + nI j) L) {E : wE} {Z : sE} (hK : wK E s) (hF : SF Z (fun q : Nat => s.heap.size ≤ q) s s.heap) {ad md : Nat → Nat} {s0 : CSt} {t0 : MSt} (hR : REL s0 t0) (K : ∀ (s1 : CSt) (t1 : MSt), REL s1 t1 → ∀ (H : Heap) (locs : List Loc) (ls : Array Slot), wP E (CW E ad s1) H → wP E (MWd E md t1) H → va_D (fun q : Nat => s.heap.size ≤ q) (CW E ad s1 ++ MWd E md t1) → va_S (fun q : Nat => s.heap.size ≤ q) s.heap H locs → lv_has ls 4 [(0, .ref b), (1, .ref (ad 0)), (2, .ref (md 0)), (3, .int x3)] → W p l e room_1 s m #[Value.ref b] below meth c H locs 200 6980 (lw_Z below #[Value.ref b] s) (F0 m 1216 ls [])) : ∀ (H : Heap) (locs : List Loc) (ls : Array Slot), wP E (CW E ad s0) H → wP E (MWd E md t0) H → va_D (fun q : Nat => s.heap.size ≤ q) (CW E ad s0 ++ MWd E md t0) → va_S (fun q : Nat => s.heap.size ≤ q) s.heap H locs → lv_has ls 4 [(0, .ref b), (1, .ref (ad 0)), (2, .ref (md 0)), (3, .int x3)] → W p l e room_1 s m #[Value.ref b] below meth c H locs 200 6980 (lw_Z below #[Value.ref b] s) (F0 m 394 ls []) := by
  intro H locs ls hPa hPb hD hS hl
  obtain ⟨hx, hb, hr, hml, hown, hts, hX0, hbl, hlocks, hgv⟩ := C0
  have hA : ∀ q : Nat, s.heap.size ≤ q → (fun q : Nat => s.heap.size ≤ q) q := fun _ h => h
  have hbA : ¬ (fun q : Nat => s.heap.size ≤ q) b := Nat.not_le.mpr hbl
  have hX : CX p s m #[Value.ref b] meth c code 4 ret RL := ⟨hx, hb, hr, hml, fun w hw => hts w (List.mem_filter.mp hw).1, hown, hlocks, wN.of (fun w hw => hts w (List.mem_append_right _ hw))⟩
  obtain ⟨r, s1, t1, h7, h8, hR1⟩ := hst s0 t0 hR
  refine lv_aload_n hx hb dL_law_394 rfl (lv_at hl 1 rfl) (W.pc 395 rfl ?_)
  refine kVl (st1 := [.int r]) hX (L7_undo l E ad  s0 r s1 h7) B_X7_undo w_3_22 hK hPa hPb hD hS hA (q0 := 0) (ci := 4) rfl rfl rfl rfl hl.1 rfl (Nat.le_of_ble_eq_true rfl) ⟨Nat.le_of_ble_eq_true rfl, Nat.le_of_ble_eq_true rfl⟩ ⟨Nat.le_of_ble_eq_true rfl, Nat.le_of_ble_eq_true rfl⟩ dL_law_395 rfl (fun H locs hPa hPb hD hS => W.pc 398 rfl ?_)
  refine lv_aload_n hx hb dL_law_398 rfl (lv_at hl 2 rfl) (W.pc 399 rfl ?_)
  refine kVr (st1 := [.int r, .int r]) hX (L8_undo l E md  t0 r t1 h8) B_X8_undo w_5_30 hK hPa hPb hD hS hA (q0 := 0) (ci := 5) rfl rfl rfl rfl hl.1 rfl (Nat.le_of_ble_eq_true rfl) ⟨Nat.le_of_ble_eq_true rfl, Nat.le_of_ble_eq_true rfl⟩ ⟨Nat.le_of_ble_eq_true rfl, Nat.le_of_ble_eq_true rfl⟩ dL_law_399 rfl (fun H locs hPa hPb hD hS => W.pc 402 rfl ?_)
  refine lv_icmp_eq (tgt := 1216) hx hb dL_law_402 (by decide) (fun _ => ?_) (fun q => absurd rfl q)
  exact K s1 t1 hR1 _ _ _ hPa hPb hD hS hl
set_option maxHeartbeats 4000000 in
set_option maxRecDepth 100000 in
theorem law_9 {p : Program} {l : Launch} {e : Env} {s : State} {m : MethodId} {below : List Frame} {meth : Method} {c : Code} {b L : Nat} {xs : Nat → Int32} {REL : CSt → MSt → Prop} (hst : ∀ (p1 : Int32) (s : CSt) (t : MSt), REL s t → ∃ (r : Int32) (s1 : CSt) (t1 : MSt), S7_now p1 s = some (r, s1) ∧ S8_now p1 t = some (r, t1) ∧ REL s1 t1) (C0 : lw_At p s m meth c b L xs) {x3 : Int32} (hin : ∀ j : Nat, j < 6 → vp_in (x3 + nI j) L) {E : wE} {Z : sE} (hK : wK E s) (hF : SF Z (fun q : Nat => s.heap.size ≤ q) s s.heap) {ad md : Nat → Nat} {s0 : CSt} {t0 : MSt} (hR : REL s0 t0) (K : ∀ (s1 : CSt) (t1 : MSt), REL s1 t1 → ∀ (H : Heap) (locs : List Loc) (ls : Array Slot), wP E (CW E ad s1) H → wP E (MWd E md t1) H → va_D (fun q : Nat => s.heap.size ≤ q) (CW E ad s1 ++ MWd E md t1) → va_S (fun q : Nat => s.heap.size ≤ q) s.heap H locs → lv_has ls 4 [(0, .ref b), (1, .ref (ad 0)), (2, .ref (md 0)), (3, .int x3)] → W p l e room_1 s m #[Value.ref b] below meth c H locs 200 6980 (lw_Z below #[Value.ref b] s) (F0 m 1216 ls [])) : ∀ (H : Heap) (locs : List Loc) (ls : Array Slot), wP E (CW E ad s0) H → wP E (MWd E md t0) H → va_D (fun q : Nat => s.heap.size ≤ q) (CW E ad s0 ++ MWd E md t0) → va_S (fun q : Nat => s.heap.size ≤ q) s.heap H locs → lv_has ls 4 [(0, .ref b), (1, .ref (ad 0)), (2, .ref (md 0)), (3, .int x3)] → W p l e room_1 s m #[Value.ref b] below meth c H locs 200 6980 (lw_Z below #[Value.ref b] s) (F0 m 407 ls []) := by
  intro H locs ls hPa hPb hD hS hl
  obtain ⟨hx, hb, hr, hml, hown, hts, hX0, hbl, hlocks, hgv⟩ := C0
  have hA : ∀ q : Nat, s.heap.size ≤ q → (fun q : Nat => s.heap.size ≤ q) q := fun _ h => h
  have hbA : ¬ (fun q : Nat => s.heap.size ≤ q) b := Nat.not_le.mpr hbl
  have hX : CX p s m #[Value.ref b] meth c code 4 ret RL := ⟨hx, hb, hr, hml, fun w hw => hts w (List.mem_filter.mp hw).1, hown, hlocks, wN.of (fun w hw => hts w (List.mem_append_right _ hw))⟩
  obtain ⟨r, s1, t1, h7, h8, hR1⟩ := hst (xs (x3 + (1 : Int32)).toNatClampNeg) s0 t0 hR
  refine lv_aload_n hx hb dL_law_407 rfl (lv_at hl 1 rfl) (W.pc 408 rfl ?_)
  refine lv_aload_n hx hb dL_law_408 rfl (lv_at hl 0 rfl) (W.pc 409 rfl ?_)
  refine lv_iload_n hx hb dL_law_409 rfl (lv_at hl 3 rfl) (W.pc 410 rfl ?_)
  refine lv_iconst (v := (1 : Int32)) hx hb dL_law_410 (by decide) (W.pc 411 rfl ?_)
  refine lv_iadd hx hb dL_law_411 (W.pc 412 rfl ?_)
  refine va_sld hx hb hX0 hbl hbA hS (hin 1 (by decide)) dL_law_412 (W.pc 413 rfl ?_)
  refine kVl (st1 := [.int r]) hX (L7_now l E ad (xs (x3 + (1 : Int32)).toNatClampNeg) s0 r s1 h7) B_X7_now w_3_34 hK hPa hPb hD hS hA (q0 := 0) (ci := 4) rfl rfl rfl rfl hl.1 rfl (Nat.le_of_ble_eq_true rfl) ⟨Nat.le_of_ble_eq_true rfl, Nat.le_of_ble_eq_true rfl⟩ ⟨Nat.le_of_ble_eq_true rfl, Nat.le_of_ble_eq_true rfl⟩ dL_law_413 rfl (fun H locs hPa hPb hD hS => W.pc 416 rfl ?_)
  refine lv_aload_n hx hb dL_law_416 rfl (lv_at hl 2 rfl) (W.pc 417 rfl ?_)
  refine lv_aload_n hx hb dL_law_417 rfl (lv_at hl 0 rfl) (W.pc 418 rfl ?_)
  refine lv_iload_n hx hb dL_law_418 rfl (lv_at hl 3 rfl) (W.pc 419 rfl ?_)
  refine lv_iconst (v := (1 : Int32)) hx hb dL_law_419 (by decide) (W.pc 420 rfl ?_)
  refine lv_iadd hx hb dL_law_420 (W.pc 421 rfl ?_)
  refine va_sld hx hb hX0 hbl hbA hS (hin 1 (by decide)) dL_law_421 (W.pc 422 rfl ?_)
  refine kVr (st1 := [.int r, .int r]) hX (L8_now l E md (xs (x3 + (1 : Int32)).toNatClampNeg) t0 r t1 h8) B_X8_now w_5_38 hK hPa hPb hD hS hA (q0 := 0) (ci := 5) rfl rfl rfl rfl hl.1 rfl (Nat.le_of_ble_eq_true rfl) ⟨Nat.le_of_ble_eq_true rfl, Nat.le_of_ble_eq_true rfl⟩ ⟨Nat.le_of_ble_eq_true rfl, Nat.le_of_ble_eq_true rfl⟩ dL_law_422 rfl (fun H locs hPa hPb hD hS => W.pc 425 rfl ?_)
  refine lv_icmp_eq (tgt := 1216) hx hb dL_law_425 (by decide) (fun _ => ?_) (fun q => absurd rfl q)
  exact K s1 t1 hR1 _ _ _ hPa hPb hD hS hl
set_option maxHeartbeats 4000000 in
set_option maxRecDepth 100000 in
theorem law_10 {p : Program} {l : Launch} {e : Env} {s : State} {m : MethodId} {below : List Frame} {meth : Method} {c : Code} {b L : Nat} {xs : Nat → Int32} {REL : CSt → MSt → Prop} (hst : ∀ (p1 p2 p3 : Int32) (s : CSt) (t : MSt), REL s t → ∃ (r : Int32) (s1 : CSt) (t1 : MSt), S7_of p1 p2 p3 s = some (r, s1) ∧ S8_of p1 p2 p3 t = some (r, t1) ∧ REL s1 t1) (C0 : lw_At p s m meth c b L xs) {x3 : Int32} (hin : ∀ j : Nat, j < 6 → vp_in (x3 + nI j) L) {E : wE} {Z : sE} (hK : wK E s) (hF : SF Z (fun q : Nat => s.heap.size ≤ q) s s.heap) {ad md : Nat → Nat} {s0 : CSt} {t0 : MSt} (hR : REL s0 t0) (K : ∀ (s1 : CSt) (t1 : MSt), REL s1 t1 → ∀ (H : Heap) (locs : List Loc) (ls : Array Slot), wP E (CW E ad s1) H → wP E (MWd E md t1) H → va_D (fun q : Nat => s.heap.size ≤ q) (CW E ad s1 ++ MWd E md t1) → va_S (fun q : Nat => s.heap.size ≤ q) s.heap H locs → lv_has ls 4 [(0, .ref b), (1, .ref (ad 0)), (2, .ref (md 0)), (3, .int x3)] → W p l e room_1 s m #[Value.ref b] below meth c H locs 200 6980 (lw_Z below #[Value.ref b] s) (F0 m 1216 ls [])) : ∀ (H : Heap) (locs : List Loc) (ls : Array Slot), wP E (CW E ad s0) H → wP E (MWd E md t0) H → va_D (fun q : Nat => s.heap.size ≤ q) (CW E ad s0 ++ MWd E md t0) → va_S (fun q : Nat => s.heap.size ≤ q) s.heap H locs → lv_has ls 4 [(0, .ref b), (1, .ref (ad 0)), (2, .ref (md 0)), (3, .int x3)] → W p l e room_1 s m #[Value.ref b] below meth c H locs 200 6980 (lw_Z below #[Value.ref b] s) (F0 m 430 ls []) := by
  intro H locs ls hPa hPb hD hS hl
  obtain ⟨hx, hb, hr, hml, hown, hts, hX0, hbl, hlocks, hgv⟩ := C0
  have hA : ∀ q : Nat, s.heap.size ≤ q → (fun q : Nat => s.heap.size ≤ q) q := fun _ h => h
  have hbA : ¬ (fun q : Nat => s.heap.size ≤ q) b := Nat.not_le.mpr hbl
  have hX : CX p s m #[Value.ref b] meth c code 4 ret RL := ⟨hx, hb, hr, hml, fun w hw => hts w (List.mem_filter.mp hw).1, hown, hlocks, wN.of (fun w hw => hts w (List.mem_append_right _ hw))⟩
  obtain ⟨r, s1, t1, h7, h8, hR1⟩ := hst (xs (x3 + (1 : Int32)).toNatClampNeg) (xs (x3 + (2 : Int32)).toNatClampNeg) (xs (x3 + (3 : Int32)).toNatClampNeg) s0 t0 hR
  refine lv_aload_n hx hb dL_law_430 rfl (lv_at hl 1 rfl) (W.pc 431 rfl ?_)
  refine lv_aload_n hx hb dL_law_431 rfl (lv_at hl 0 rfl) (W.pc 432 rfl ?_)
  refine lv_iload_n hx hb dL_law_432 rfl (lv_at hl 3 rfl) (W.pc 433 rfl ?_)
  refine lv_iconst (v := (1 : Int32)) hx hb dL_law_433 (by decide) (W.pc 434 rfl ?_)
  refine lv_iadd hx hb dL_law_434 (W.pc 435 rfl ?_)
  refine va_sld hx hb hX0 hbl hbA hS (hin 1 (by decide)) dL_law_435 (W.pc 436 rfl ?_)
  refine lv_aload_n hx hb dL_law_436 rfl (lv_at hl 0 rfl) (W.pc 437 rfl ?_)
  refine lv_iload_n hx hb dL_law_437 rfl (lv_at hl 3 rfl) (W.pc 438 rfl ?_)
  refine lv_iconst (v := (2 : Int32)) hx hb dL_law_438 (by decide) (W.pc 439 rfl ?_)
  refine lv_iadd hx hb dL_law_439 (W.pc 440 rfl ?_)
  refine va_sld hx hb hX0 hbl hbA hS (hin 2 (by decide)) dL_law_440 (W.pc 441 rfl ?_)
  refine lv_aload_n hx hb dL_law_441 rfl (lv_at hl 0 rfl) (W.pc 442 rfl ?_)
  refine lv_iload_n hx hb dL_law_442 rfl (lv_at hl 3 rfl) (W.pc 443 rfl ?_)
  refine lv_iconst (v := (3 : Int32)) hx hb dL_law_443 (by decide) (W.pc 444 rfl ?_)
  refine lv_iadd hx hb dL_law_444 (W.pc 445 rfl ?_)
  refine va_sld hx hb hX0 hbl hbA hS (hin 3 (by decide)) dL_law_445 (W.pc 446 rfl ?_)
  refine kVl (st1 := [.int r]) hX (L7_of l E ad (xs (x3 + (1 : Int32)).toNatClampNeg) (xs (x3 + (2 : Int32)).toNatClampNeg) (xs (x3 + (3 : Int32)).toNatClampNeg) s0 r s1 h7) B_X7_of w_3_39 hK hPa hPb hD hS hA (q0 := 0) (ci := 4) rfl rfl rfl rfl hl.1 rfl (Nat.le_of_ble_eq_true rfl) ⟨Nat.le_of_ble_eq_true rfl, Nat.le_of_ble_eq_true rfl⟩ ⟨Nat.le_of_ble_eq_true rfl, Nat.le_of_ble_eq_true rfl⟩ dL_law_446 rfl (fun H locs hPa hPb hD hS => W.pc 449 rfl ?_)
  refine lv_aload_n hx hb dL_law_449 rfl (lv_at hl 2 rfl) (W.pc 450 rfl ?_)
  refine lv_aload_n hx hb dL_law_450 rfl (lv_at hl 0 rfl) (W.pc 451 rfl ?_)
  refine lv_iload_n hx hb dL_law_451 rfl (lv_at hl 3 rfl) (W.pc 452 rfl ?_)
  refine lv_iconst (v := (1 : Int32)) hx hb dL_law_452 (by decide) (W.pc 453 rfl ?_)
  refine lv_iadd hx hb dL_law_453 (W.pc 454 rfl ?_)
  refine va_sld hx hb hX0 hbl hbA hS (hin 1 (by decide)) dL_law_454 (W.pc 455 rfl ?_)
  refine lv_aload_n hx hb dL_law_455 rfl (lv_at hl 0 rfl) (W.pc 456 rfl ?_)
  refine lv_iload_n hx hb dL_law_456 rfl (lv_at hl 3 rfl) (W.pc 457 rfl ?_)
  refine lv_iconst (v := (2 : Int32)) hx hb dL_law_457 (by decide) (W.pc 458 rfl ?_)
  refine lv_iadd hx hb dL_law_458 (W.pc 459 rfl ?_)
  refine va_sld hx hb hX0 hbl hbA hS (hin 2 (by decide)) dL_law_459 (W.pc 460 rfl ?_)
  refine lv_aload_n hx hb dL_law_460 rfl (lv_at hl 0 rfl) (W.pc 461 rfl ?_)
  refine lv_iload_n hx hb dL_law_461 rfl (lv_at hl 3 rfl) (W.pc 462 rfl ?_)
  refine lv_iconst (v := (3 : Int32)) hx hb dL_law_462 (by decide) (W.pc 463 rfl ?_)
  refine lv_iadd hx hb dL_law_463 (W.pc 464 rfl ?_)
  refine va_sld hx hb hX0 hbl hbA hS (hin 3 (by decide)) dL_law_464 (W.pc 465 rfl ?_)
  refine kVr (st1 := [.int r, .int r]) hX (L8_of l E md (xs (x3 + (1 : Int32)).toNatClampNeg) (xs (x3 + (2 : Int32)).toNatClampNeg) (xs (x3 + (3 : Int32)).toNatClampNeg) t0 r t1 h8) B_X8_of w_5_42 hK hPa hPb hD hS hA (q0 := 0) (ci := 5) rfl rfl rfl rfl hl.1 rfl (Nat.le_of_ble_eq_true rfl) ⟨Nat.le_of_ble_eq_true rfl, Nat.le_of_ble_eq_true rfl⟩ ⟨Nat.le_of_ble_eq_true rfl, Nat.le_of_ble_eq_true rfl⟩ dL_law_465 rfl (fun H locs hPa hPb hD hS => W.pc 468 rfl ?_)
  refine lv_icmp_eq (tgt := 1216) hx hb dL_law_468 (by decide) (fun _ => ?_) (fun q => absurd rfl q)
  exact K s1 t1 hR1 _ _ _ hPa hPb hD hS hl
set_option maxHeartbeats 4000000 in
set_option maxRecDepth 100000 in
theorem law_11 {p : Program} {l : Launch} {e : Env} {s : State} {m : MethodId} {below : List Frame} {meth : Method} {c : Code} {b L : Nat} {xs : Nat → Int32} {REL : CSt → MSt → Prop} (hst : ∀ (p1 p2 : Int32) (s : CSt) (t : MSt), REL s t → ∃ (r : Int32) (s1 : CSt) (t1 : MSt), S7_plot p1 p2 s = some (r, s1) ∧ S8_plot p1 p2 t = some (r, t1) ∧ REL s1 t1) (C0 : lw_At p s m meth c b L xs) {x3 : Int32} (hin : ∀ j : Nat, j < 6 → vp_in (x3 + nI j) L) {E : wE} {Z : sE} (hK : wK E s) (hF : SF Z (fun q : Nat => s.heap.size ≤ q) s s.heap) {ad md : Nat → Nat} {s0 : CSt} {t0 : MSt} (hR : REL s0 t0) (K : ∀ (s1 : CSt) (t1 : MSt), REL s1 t1 → ∀ (H : Heap) (locs : List Loc) (ls : Array Slot), wP E (CW E ad s1) H → wP E (MWd E md t1) H → va_D (fun q : Nat => s.heap.size ≤ q) (CW E ad s1 ++ MWd E md t1) → va_S (fun q : Nat => s.heap.size ≤ q) s.heap H locs → lv_has ls 4 [(0, .ref b), (1, .ref (ad 0)), (2, .ref (md 0)), (3, .int x3)] → W p l e room_1 s m #[Value.ref b] below meth c H locs 200 6980 (lw_Z below #[Value.ref b] s) (F0 m 1216 ls [])) : ∀ (H : Heap) (locs : List Loc) (ls : Array Slot), wP E (CW E ad s0) H → wP E (MWd E md t0) H → va_D (fun q : Nat => s.heap.size ≤ q) (CW E ad s0 ++ MWd E md t0) → va_S (fun q : Nat => s.heap.size ≤ q) s.heap H locs → lv_has ls 4 [(0, .ref b), (1, .ref (ad 0)), (2, .ref (md 0)), (3, .int x3)] → W p l e room_1 s m #[Value.ref b] below meth c H locs 200 6980 (lw_Z below #[Value.ref b] s) (F0 m 473 ls []) := by
  intro H locs ls hPa hPb hD hS hl
  obtain ⟨hx, hb, hr, hml, hown, hts, hX0, hbl, hlocks, hgv⟩ := C0
  have hA : ∀ q : Nat, s.heap.size ≤ q → (fun q : Nat => s.heap.size ≤ q) q := fun _ h => h
  have hbA : ¬ (fun q : Nat => s.heap.size ≤ q) b := Nat.not_le.mpr hbl
  have hX : CX p s m #[Value.ref b] meth c code 4 ret RL := ⟨hx, hb, hr, hml, fun w hw => hts w (List.mem_filter.mp hw).1, hown, hlocks, wN.of (fun w hw => hts w (List.mem_append_right _ hw))⟩
  obtain ⟨r, s1, t1, h7, h8, hR1⟩ := hst (xs (x3 + (1 : Int32)).toNatClampNeg) (xs (x3 + (2 : Int32)).toNatClampNeg) s0 t0 hR
  refine lv_aload_n hx hb dL_law_473 rfl (lv_at hl 1 rfl) (W.pc 474 rfl ?_)
  refine lv_aload_n hx hb dL_law_474 rfl (lv_at hl 0 rfl) (W.pc 475 rfl ?_)
  refine lv_iload_n hx hb dL_law_475 rfl (lv_at hl 3 rfl) (W.pc 476 rfl ?_)
  refine lv_iconst (v := (1 : Int32)) hx hb dL_law_476 (by decide) (W.pc 477 rfl ?_)
  refine lv_iadd hx hb dL_law_477 (W.pc 478 rfl ?_)
  refine va_sld hx hb hX0 hbl hbA hS (hin 1 (by decide)) dL_law_478 (W.pc 479 rfl ?_)
  refine lv_aload_n hx hb dL_law_479 rfl (lv_at hl 0 rfl) (W.pc 480 rfl ?_)
  refine lv_iload_n hx hb dL_law_480 rfl (lv_at hl 3 rfl) (W.pc 481 rfl ?_)
  refine lv_iconst (v := (2 : Int32)) hx hb dL_law_481 (by decide) (W.pc 482 rfl ?_)
  refine lv_iadd hx hb dL_law_482 (W.pc 483 rfl ?_)
  refine va_sld hx hb hX0 hbl hbA hS (hin 2 (by decide)) dL_law_483 (W.pc 484 rfl ?_)
  refine kVl (st1 := [.int r]) hX (L7_plot l E ad (xs (x3 + (1 : Int32)).toNatClampNeg) (xs (x3 + (2 : Int32)).toNatClampNeg) s0 r s1 h7) B_X7_plot w_3_49 hK hPa hPb hD hS hA (q0 := 0) (ci := 4) rfl rfl rfl rfl hl.1 rfl (Nat.le_of_ble_eq_true rfl) ⟨Nat.le_of_ble_eq_true rfl, Nat.le_of_ble_eq_true rfl⟩ ⟨Nat.le_of_ble_eq_true rfl, Nat.le_of_ble_eq_true rfl⟩ dL_law_484 rfl (fun H locs hPa hPb hD hS => W.pc 487 rfl ?_)
  refine lv_aload_n hx hb dL_law_487 rfl (lv_at hl 2 rfl) (W.pc 488 rfl ?_)
  refine lv_aload_n hx hb dL_law_488 rfl (lv_at hl 0 rfl) (W.pc 489 rfl ?_)
  refine lv_iload_n hx hb dL_law_489 rfl (lv_at hl 3 rfl) (W.pc 490 rfl ?_)
  refine lv_iconst (v := (1 : Int32)) hx hb dL_law_490 (by decide) (W.pc 491 rfl ?_)
  refine lv_iadd hx hb dL_law_491 (W.pc 492 rfl ?_)
  refine va_sld hx hb hX0 hbl hbA hS (hin 1 (by decide)) dL_law_492 (W.pc 493 rfl ?_)
  refine lv_aload_n hx hb dL_law_493 rfl (lv_at hl 0 rfl) (W.pc 494 rfl ?_)
  refine lv_iload_n hx hb dL_law_494 rfl (lv_at hl 3 rfl) (W.pc 495 rfl ?_)
  refine lv_iconst (v := (2 : Int32)) hx hb dL_law_495 (by decide) (W.pc 496 rfl ?_)
  refine lv_iadd hx hb dL_law_496 (W.pc 497 rfl ?_)
  refine va_sld hx hb hX0 hbl hbA hS (hin 2 (by decide)) dL_law_497 (W.pc 498 rfl ?_)
  refine kVr (st1 := [.int r, .int r]) hX (L8_plot l E md (xs (x3 + (1 : Int32)).toNatClampNeg) (xs (x3 + (2 : Int32)).toNatClampNeg) t0 r t1 h8) B_X8_plot w_5_46 hK hPa hPb hD hS hA (q0 := 0) (ci := 5) rfl rfl rfl rfl hl.1 rfl (Nat.le_of_ble_eq_true rfl) ⟨Nat.le_of_ble_eq_true rfl, Nat.le_of_ble_eq_true rfl⟩ ⟨Nat.le_of_ble_eq_true rfl, Nat.le_of_ble_eq_true rfl⟩ dL_law_498 rfl (fun H locs hPa hPb hD hS => W.pc 501 rfl ?_)
  refine lv_icmp_eq (tgt := 1216) hx hb dL_law_501 (by decide) (fun _ => ?_) (fun q => absurd rfl q)
  exact K s1 t1 hR1 _ _ _ hPa hPb hD hS hl
set_option maxHeartbeats 4000000 in
set_option maxRecDepth 100000 in
theorem law_12 {p : Program} {l : Launch} {e : Env} {s : State} {m : MethodId} {below : List Frame} {meth : Method} {c : Code} {b L : Nat} {xs : Nat → Int32} {REL : CSt → MSt → Prop} (hst : ∀ (p1 : Int32) (s : CSt) (t : MSt), REL s t → ∃ (r : Int32) (s1 : CSt) (t1 : MSt), S7_then p1 s = some (r, s1) ∧ S8_then p1 t = some (r, t1) ∧ REL s1 t1) (C0 : lw_At p s m meth c b L xs) {x3 : Int32} (hin : ∀ j : Nat, j < 6 → vp_in (x3 + nI j) L) {E : wE} {Z : sE} (hK : wK E s) (hF : SF Z (fun q : Nat => s.heap.size ≤ q) s s.heap) {ad md : Nat → Nat} {s0 : CSt} {t0 : MSt} (hR : REL s0 t0) (K : ∀ (s1 : CSt) (t1 : MSt), REL s1 t1 → ∀ (H : Heap) (locs : List Loc) (ls : Array Slot), wP E (CW E ad s1) H → wP E (MWd E md t1) H → va_D (fun q : Nat => s.heap.size ≤ q) (CW E ad s1 ++ MWd E md t1) → va_S (fun q : Nat => s.heap.size ≤ q) s.heap H locs → lv_has ls 4 [(0, .ref b), (1, .ref (ad 0)), (2, .ref (md 0)), (3, .int x3)] → W p l e room_1 s m #[Value.ref b] below meth c H locs 200 6980 (lw_Z below #[Value.ref b] s) (F0 m 1216 ls [])) : ∀ (H : Heap) (locs : List Loc) (ls : Array Slot), wP E (CW E ad s0) H → wP E (MWd E md t0) H → va_D (fun q : Nat => s.heap.size ≤ q) (CW E ad s0 ++ MWd E md t0) → va_S (fun q : Nat => s.heap.size ≤ q) s.heap H locs → lv_has ls 4 [(0, .ref b), (1, .ref (ad 0)), (2, .ref (md 0)), (3, .int x3)] → W p l e room_1 s m #[Value.ref b] below meth c H locs 200 6980 (lw_Z below #[Value.ref b] s) (F0 m 506 ls []) := by
  intro H locs ls hPa hPb hD hS hl
  obtain ⟨hx, hb, hr, hml, hown, hts, hX0, hbl, hlocks, hgv⟩ := C0
  have hA : ∀ q : Nat, s.heap.size ≤ q → (fun q : Nat => s.heap.size ≤ q) q := fun _ h => h
  have hbA : ¬ (fun q : Nat => s.heap.size ≤ q) b := Nat.not_le.mpr hbl
  have hX : CX p s m #[Value.ref b] meth c code 4 ret RL := ⟨hx, hb, hr, hml, fun w hw => hts w (List.mem_filter.mp hw).1, hown, hlocks, wN.of (fun w hw => hts w (List.mem_append_right _ hw))⟩
  obtain ⟨r, s1, t1, h7, h8, hR1⟩ := hst (xs (x3 + (1 : Int32)).toNatClampNeg) s0 t0 hR
  refine lv_aload_n hx hb dL_law_506 rfl (lv_at hl 1 rfl) (W.pc 507 rfl ?_)
  refine lv_aload_n hx hb dL_law_507 rfl (lv_at hl 0 rfl) (W.pc 508 rfl ?_)
  refine lv_iload_n hx hb dL_law_508 rfl (lv_at hl 3 rfl) (W.pc 509 rfl ?_)
  refine lv_iconst (v := (1 : Int32)) hx hb dL_law_509 (by decide) (W.pc 510 rfl ?_)
  refine lv_iadd hx hb dL_law_510 (W.pc 511 rfl ?_)
  refine va_sld hx hb hX0 hbl hbA hS (hin 1 (by decide)) dL_law_511 (W.pc 512 rfl ?_)
  refine kVl (st1 := [.int r]) hX (L7_then l E ad (xs (x3 + (1 : Int32)).toNatClampNeg) s0 r s1 h7) B_X7_then w_3_62 hK hPa hPb hD hS hA (q0 := 0) (ci := 4) rfl rfl rfl rfl hl.1 rfl (Nat.le_of_ble_eq_true rfl) ⟨Nat.le_of_ble_eq_true rfl, Nat.le_of_ble_eq_true rfl⟩ ⟨Nat.le_of_ble_eq_true rfl, Nat.le_of_ble_eq_true rfl⟩ dL_law_512 rfl (fun H locs hPa hPb hD hS => W.pc 515 rfl ?_)
  refine lv_aload_n hx hb dL_law_515 rfl (lv_at hl 2 rfl) (W.pc 516 rfl ?_)
  refine lv_aload_n hx hb dL_law_516 rfl (lv_at hl 0 rfl) (W.pc 517 rfl ?_)
  refine lv_iload_n hx hb dL_law_517 rfl (lv_at hl 3 rfl) (W.pc 518 rfl ?_)
  refine lv_iconst (v := (1 : Int32)) hx hb dL_law_518 (by decide) (W.pc 519 rfl ?_)
  refine lv_iadd hx hb dL_law_519 (W.pc 520 rfl ?_)
  refine va_sld hx hb hX0 hbl hbA hS (hin 1 (by decide)) dL_law_520 (W.pc 521 rfl ?_)
  refine kVr (st1 := [.int r, .int r]) hX (L8_then l E md (xs (x3 + (1 : Int32)).toNatClampNeg) t0 r t1 h8) B_X8_then w_5_53 hK hPa hPb hD hS hA (q0 := 0) (ci := 5) rfl rfl rfl rfl hl.1 rfl (Nat.le_of_ble_eq_true rfl) ⟨Nat.le_of_ble_eq_true rfl, Nat.le_of_ble_eq_true rfl⟩ ⟨Nat.le_of_ble_eq_true rfl, Nat.le_of_ble_eq_true rfl⟩ dL_law_521 rfl (fun H locs hPa hPb hD hS => W.pc 524 rfl ?_)
  refine lv_icmp_eq (tgt := 1216) hx hb dL_law_524 (by decide) (fun _ => ?_) (fun q => absurd rfl q)
  exact K s1 t1 hR1 _ _ _ hPa hPb hD hS hl
set_option maxHeartbeats 4000000 in
set_option maxRecDepth 100000 in
theorem law_13 {p : Program} {l : Launch} {e : Env} {s : State} {m : MethodId} {below : List Frame} {meth : Method} {c : Code} {b L : Nat} {xs : Nat → Int32} {REL : CSt → MSt → Prop} (hst : ∀ (p1 : Int32) (s : CSt) (t : MSt), REL s t → ∃ (r : Int32) (s1 : CSt) (t1 : MSt), S7_when p1 s = some (r, s1) ∧ S8_when p1 t = some (r, t1) ∧ REL s1 t1) (C0 : lw_At p s m meth c b L xs) {x3 : Int32} (hin : ∀ j : Nat, j < 6 → vp_in (x3 + nI j) L) {E : wE} {Z : sE} (hK : wK E s) (hF : SF Z (fun q : Nat => s.heap.size ≤ q) s s.heap) {ad md : Nat → Nat} {s0 : CSt} {t0 : MSt} (hR : REL s0 t0) (K : ∀ (s1 : CSt) (t1 : MSt), REL s1 t1 → ∀ (H : Heap) (locs : List Loc) (ls : Array Slot), wP E (CW E ad s1) H → wP E (MWd E md t1) H → va_D (fun q : Nat => s.heap.size ≤ q) (CW E ad s1 ++ MWd E md t1) → va_S (fun q : Nat => s.heap.size ≤ q) s.heap H locs → lv_has ls 4 [(0, .ref b), (1, .ref (ad 0)), (2, .ref (md 0)), (3, .int x3)] → W p l e room_1 s m #[Value.ref b] below meth c H locs 200 6980 (lw_Z below #[Value.ref b] s) (F0 m 1216 ls [])) : ∀ (H : Heap) (locs : List Loc) (ls : Array Slot), wP E (CW E ad s0) H → wP E (MWd E md t0) H → va_D (fun q : Nat => s.heap.size ≤ q) (CW E ad s0 ++ MWd E md t0) → va_S (fun q : Nat => s.heap.size ≤ q) s.heap H locs → lv_has ls 4 [(0, .ref b), (1, .ref (ad 0)), (2, .ref (md 0)), (3, .int x3)] → W p l e room_1 s m #[Value.ref b] below meth c H locs 200 6980 (lw_Z below #[Value.ref b] s) (F0 m 529 ls []) := by
  intro H locs ls hPa hPb hD hS hl
  obtain ⟨hx, hb, hr, hml, hown, hts, hX0, hbl, hlocks, hgv⟩ := C0
  have hA : ∀ q : Nat, s.heap.size ≤ q → (fun q : Nat => s.heap.size ≤ q) q := fun _ h => h
  have hbA : ¬ (fun q : Nat => s.heap.size ≤ q) b := Nat.not_le.mpr hbl
  have hX : CX p s m #[Value.ref b] meth c code 4 ret RL := ⟨hx, hb, hr, hml, fun w hw => hts w (List.mem_filter.mp hw).1, hown, hlocks, wN.of (fun w hw => hts w (List.mem_append_right _ hw))⟩
  obtain ⟨r, s1, t1, h7, h8, hR1⟩ := hst (xs (x3 + (1 : Int32)).toNatClampNeg) s0 t0 hR
  refine lv_aload_n hx hb dL_law_529 rfl (lv_at hl 1 rfl) (W.pc 530 rfl ?_)
  refine lv_aload_n hx hb dL_law_530 rfl (lv_at hl 0 rfl) (W.pc 531 rfl ?_)
  refine lv_iload_n hx hb dL_law_531 rfl (lv_at hl 3 rfl) (W.pc 532 rfl ?_)
  refine lv_iconst (v := (1 : Int32)) hx hb dL_law_532 (by decide) (W.pc 533 rfl ?_)
  refine lv_iadd hx hb dL_law_533 (W.pc 534 rfl ?_)
  refine va_sld hx hb hX0 hbl hbA hS (hin 1 (by decide)) dL_law_534 (W.pc 535 rfl ?_)
  refine kVl (st1 := [.int r]) hX (L7_when l E ad (xs (x3 + (1 : Int32)).toNatClampNeg) s0 r s1 h7) B_X7_when w_3_70 hK hPa hPb hD hS hA (q0 := 0) (ci := 4) rfl rfl rfl rfl hl.1 rfl (Nat.le_of_ble_eq_true rfl) ⟨Nat.le_of_ble_eq_true rfl, Nat.le_of_ble_eq_true rfl⟩ ⟨Nat.le_of_ble_eq_true rfl, Nat.le_of_ble_eq_true rfl⟩ dL_law_535 rfl (fun H locs hPa hPb hD hS => W.pc 538 rfl ?_)
  refine lv_aload_n hx hb dL_law_538 rfl (lv_at hl 2 rfl) (W.pc 539 rfl ?_)
  refine lv_aload_n hx hb dL_law_539 rfl (lv_at hl 0 rfl) (W.pc 540 rfl ?_)
  refine lv_iload_n hx hb dL_law_540 rfl (lv_at hl 3 rfl) (W.pc 541 rfl ?_)
  refine lv_iconst (v := (1 : Int32)) hx hb dL_law_541 (by decide) (W.pc 542 rfl ?_)
  refine lv_iadd hx hb dL_law_542 (W.pc 543 rfl ?_)
  refine va_sld hx hb hX0 hbl hbA hS (hin 1 (by decide)) dL_law_543 (W.pc 544 rfl ?_)
  refine kVr (st1 := [.int r, .int r]) hX (L8_when l E md (xs (x3 + (1 : Int32)).toNatClampNeg) t0 r t1 h8) B_X8_when w_5_61 hK hPa hPb hD hS hA (q0 := 0) (ci := 5) rfl rfl rfl rfl hl.1 rfl (Nat.le_of_ble_eq_true rfl) ⟨Nat.le_of_ble_eq_true rfl, Nat.le_of_ble_eq_true rfl⟩ ⟨Nat.le_of_ble_eq_true rfl, Nat.le_of_ble_eq_true rfl⟩ dL_law_544 rfl (fun H locs hPa hPb hD hS => W.pc 547 rfl ?_)
  refine lv_icmp_eq (tgt := 1216) hx hb dL_law_547 (by decide) (fun _ => ?_) (fun q => absurd rfl q)
  exact K s1 t1 hR1 _ _ _ hPa hPb hD hS hl
set_option maxHeartbeats 4000000 in
set_option maxRecDepth 100000 in
theorem law_14 {p : Program} {l : Launch} {e : Env} {s : State} {m : MethodId} {below : List Frame} {meth : Method} {c : Code} {b L : Nat} {xs : Nat → Int32} {REL : CSt → MSt → Prop} (hst : ∀ (p1 p2 p3 : Int32) (s : CSt) (t : MSt), REL s t → ∃ (r : Int32) (s1 : CSt) (t1 : MSt), S7_fits p1 p2 p3 s = some (r, s1) ∧ S8_fits p1 p2 p3 t = some (r, t1) ∧ REL s1 t1) (C0 : lw_At p s m meth c b L xs) {x3 : Int32} (hin : ∀ j : Nat, j < 6 → vp_in (x3 + nI j) L) {E : wE} {Z : sE} (hK : wK E s) (hF : SF Z (fun q : Nat => s.heap.size ≤ q) s s.heap) {ad md : Nat → Nat} {s0 : CSt} {t0 : MSt} (hR : REL s0 t0) (K : ∀ (s1 : CSt) (t1 : MSt), REL s1 t1 → ∀ (H : Heap) (locs : List Loc) (ls : Array Slot), wP E (CW E ad s1) H → wP E (MWd E md t1) H → va_D (fun q : Nat => s.heap.size ≤ q) (CW E ad s1 ++ MWd E md t1) → va_S (fun q : Nat => s.heap.size ≤ q) s.heap H locs → lv_has ls 4 [(0, .ref b), (1, .ref (ad 0)), (2, .ref (md 0)), (3, .int x3)] → W p l e room_1 s m #[Value.ref b] below meth c H locs 200 6980 (lw_Z below #[Value.ref b] s) (F0 m 1216 ls [])) : ∀ (H : Heap) (locs : List Loc) (ls : Array Slot), wP E (CW E ad s0) H → wP E (MWd E md t0) H → va_D (fun q : Nat => s.heap.size ≤ q) (CW E ad s0 ++ MWd E md t0) → va_S (fun q : Nat => s.heap.size ≤ q) s.heap H locs → lv_has ls 4 [(0, .ref b), (1, .ref (ad 0)), (2, .ref (md 0)), (3, .int x3)] → W p l e room_1 s m #[Value.ref b] below meth c H locs 200 6980 (lw_Z below #[Value.ref b] s) (F0 m 552 ls []) := by
  intro H locs ls hPa hPb hD hS hl
  obtain ⟨hx, hb, hr, hml, hown, hts, hX0, hbl, hlocks, hgv⟩ := C0
  have hA : ∀ q : Nat, s.heap.size ≤ q → (fun q : Nat => s.heap.size ≤ q) q := fun _ h => h
  have hbA : ¬ (fun q : Nat => s.heap.size ≤ q) b := Nat.not_le.mpr hbl
  have hX : CX p s m #[Value.ref b] meth c code 4 ret RL := ⟨hx, hb, hr, hml, fun w hw => hts w (List.mem_filter.mp hw).1, hown, hlocks, wN.of (fun w hw => hts w (List.mem_append_right _ hw))⟩
  obtain ⟨r, s1, t1, h7, h8, hR1⟩ := hst (xs (x3 + (1 : Int32)).toNatClampNeg) (xs (x3 + (2 : Int32)).toNatClampNeg) (xs (x3 + (3 : Int32)).toNatClampNeg) s0 t0 hR
  refine lv_aload_n hx hb dL_law_552 rfl (lv_at hl 1 rfl) (W.pc 553 rfl ?_)
  refine lv_aload_n hx hb dL_law_553 rfl (lv_at hl 0 rfl) (W.pc 554 rfl ?_)
  refine lv_iload_n hx hb dL_law_554 rfl (lv_at hl 3 rfl) (W.pc 555 rfl ?_)
  refine lv_iconst (v := (1 : Int32)) hx hb dL_law_555 (by decide) (W.pc 556 rfl ?_)
  refine lv_iadd hx hb dL_law_556 (W.pc 557 rfl ?_)
  refine va_sld hx hb hX0 hbl hbA hS (hin 1 (by decide)) dL_law_557 (W.pc 558 rfl ?_)
  refine lv_aload_n hx hb dL_law_558 rfl (lv_at hl 0 rfl) (W.pc 559 rfl ?_)
  refine lv_iload_n hx hb dL_law_559 rfl (lv_at hl 3 rfl) (W.pc 560 rfl ?_)
  refine lv_iconst (v := (2 : Int32)) hx hb dL_law_560 (by decide) (W.pc 561 rfl ?_)
  refine lv_iadd hx hb dL_law_561 (W.pc 562 rfl ?_)
  refine va_sld hx hb hX0 hbl hbA hS (hin 2 (by decide)) dL_law_562 (W.pc 563 rfl ?_)
  refine lv_aload_n hx hb dL_law_563 rfl (lv_at hl 0 rfl) (W.pc 564 rfl ?_)
  refine lv_iload_n hx hb dL_law_564 rfl (lv_at hl 3 rfl) (W.pc 565 rfl ?_)
  refine lv_iconst (v := (3 : Int32)) hx hb dL_law_565 (by decide) (W.pc 566 rfl ?_)
  refine lv_iadd hx hb dL_law_566 (W.pc 567 rfl ?_)
  refine va_sld hx hb hX0 hbl hbA hS (hin 3 (by decide)) dL_law_567 (W.pc 568 rfl ?_)
  refine kVl (st1 := [.int r]) hX (L7_fits l E ad (xs (x3 + (1 : Int32)).toNatClampNeg) (xs (x3 + (2 : Int32)).toNatClampNeg) (xs (x3 + (3 : Int32)).toNatClampNeg) s0 r s1 h7) B_X7_fits w_3_75 hK hPa hPb hD hS hA (q0 := 0) (ci := 4) rfl rfl rfl rfl hl.1 rfl (Nat.le_of_ble_eq_true rfl) ⟨Nat.le_of_ble_eq_true rfl, Nat.le_of_ble_eq_true rfl⟩ ⟨Nat.le_of_ble_eq_true rfl, Nat.le_of_ble_eq_true rfl⟩ dL_law_568 rfl (fun H locs hPa hPb hD hS => W.pc 571 rfl ?_)
  refine lv_aload_n hx hb dL_law_571 rfl (lv_at hl 2 rfl) (W.pc 572 rfl ?_)
  refine lv_aload_n hx hb dL_law_572 rfl (lv_at hl 0 rfl) (W.pc 573 rfl ?_)
  refine lv_iload_n hx hb dL_law_573 rfl (lv_at hl 3 rfl) (W.pc 574 rfl ?_)
  refine lv_iconst (v := (1 : Int32)) hx hb dL_law_574 (by decide) (W.pc 575 rfl ?_)
  refine lv_iadd hx hb dL_law_575 (W.pc 576 rfl ?_)
  refine va_sld hx hb hX0 hbl hbA hS (hin 1 (by decide)) dL_law_576 (W.pc 577 rfl ?_)
  refine lv_aload_n hx hb dL_law_577 rfl (lv_at hl 0 rfl) (W.pc 578 rfl ?_)
  refine lv_iload_n hx hb dL_law_578 rfl (lv_at hl 3 rfl) (W.pc 579 rfl ?_)
  refine lv_iconst (v := (2 : Int32)) hx hb dL_law_579 (by decide) (W.pc 580 rfl ?_)
  refine lv_iadd hx hb dL_law_580 (W.pc 581 rfl ?_)
  refine va_sld hx hb hX0 hbl hbA hS (hin 2 (by decide)) dL_law_581 (W.pc 582 rfl ?_)
  refine lv_aload_n hx hb dL_law_582 rfl (lv_at hl 0 rfl) (W.pc 583 rfl ?_)
  refine lv_iload_n hx hb dL_law_583 rfl (lv_at hl 3 rfl) (W.pc 584 rfl ?_)
  refine lv_iconst (v := (3 : Int32)) hx hb dL_law_584 (by decide) (W.pc 585 rfl ?_)
  refine lv_iadd hx hb dL_law_585 (W.pc 586 rfl ?_)
  refine va_sld hx hb hX0 hbl hbA hS (hin 3 (by decide)) dL_law_586 (W.pc 587 rfl ?_)
  refine kVr (st1 := [.int r, .int r]) hX (L8_fits l E md (xs (x3 + (1 : Int32)).toNatClampNeg) (xs (x3 + (2 : Int32)).toNatClampNeg) (xs (x3 + (3 : Int32)).toNatClampNeg) t0 r t1 h8) B_X8_fits w_5_65 hK hPa hPb hD hS hA (q0 := 0) (ci := 5) rfl rfl rfl rfl hl.1 rfl (Nat.le_of_ble_eq_true rfl) ⟨Nat.le_of_ble_eq_true rfl, Nat.le_of_ble_eq_true rfl⟩ ⟨Nat.le_of_ble_eq_true rfl, Nat.le_of_ble_eq_true rfl⟩ dL_law_587 rfl (fun H locs hPa hPb hD hS => W.pc 590 rfl ?_)
  refine lv_icmp_eq (tgt := 1216) hx hb dL_law_590 (by decide) (fun _ => ?_) (fun q => absurd rfl q)
  exact K s1 t1 hR1 _ _ _ hPa hPb hD hS hl
set_option maxHeartbeats 4000000 in
set_option maxRecDepth 100000 in
theorem law_15 {p : Program} {l : Launch} {e : Env} {s : State} {m : MethodId} {below : List Frame} {meth : Method} {c : Code} {b L : Nat} {xs : Nat → Int32} {REL : CSt → MSt → Prop} (hst : ∀ (p1 : Int32) (s : CSt) (t : MSt), REL s t → ∃ (r : Int32) (s1 : CSt) (t1 : MSt), S7_rolls p1 s = some (r, s1) ∧ S8_rolls p1 t = some (r, t1) ∧ REL s1 t1) (C0 : lw_At p s m meth c b L xs) {x3 : Int32} (hin : ∀ j : Nat, j < 6 → vp_in (x3 + nI j) L) {E : wE} {Z : sE} (hK : wK E s) (hF : SF Z (fun q : Nat => s.heap.size ≤ q) s s.heap) {ad md : Nat → Nat} {s0 : CSt} {t0 : MSt} (hR : REL s0 t0) (K : ∀ (s1 : CSt) (t1 : MSt), REL s1 t1 → ∀ (H : Heap) (locs : List Loc) (ls : Array Slot), wP E (CW E ad s1) H → wP E (MWd E md t1) H → va_D (fun q : Nat => s.heap.size ≤ q) (CW E ad s1 ++ MWd E md t1) → va_S (fun q : Nat => s.heap.size ≤ q) s.heap H locs → lv_has ls 4 [(0, .ref b), (1, .ref (ad 0)), (2, .ref (md 0)), (3, .int x3)] → W p l e room_1 s m #[Value.ref b] below meth c H locs 200 6980 (lw_Z below #[Value.ref b] s) (F0 m 1216 ls [])) : ∀ (H : Heap) (locs : List Loc) (ls : Array Slot), wP E (CW E ad s0) H → wP E (MWd E md t0) H → va_D (fun q : Nat => s.heap.size ≤ q) (CW E ad s0 ++ MWd E md t0) → va_S (fun q : Nat => s.heap.size ≤ q) s.heap H locs → lv_has ls 4 [(0, .ref b), (1, .ref (ad 0)), (2, .ref (md 0)), (3, .int x3)] → W p l e room_1 s m #[Value.ref b] below meth c H locs 200 6980 (lw_Z below #[Value.ref b] s) (F0 m 595 ls []) := by
  intro H locs ls hPa hPb hD hS hl
  obtain ⟨hx, hb, hr, hml, hown, hts, hX0, hbl, hlocks, hgv⟩ := C0
  have hA : ∀ q : Nat, s.heap.size ≤ q → (fun q : Nat => s.heap.size ≤ q) q := fun _ h => h
  have hbA : ¬ (fun q : Nat => s.heap.size ≤ q) b := Nat.not_le.mpr hbl
  have hX : CX p s m #[Value.ref b] meth c code 4 ret RL := ⟨hx, hb, hr, hml, fun w hw => hts w (List.mem_filter.mp hw).1, hown, hlocks, wN.of (fun w hw => hts w (List.mem_append_right _ hw))⟩
  obtain ⟨r, s1, t1, h7, h8, hR1⟩ := hst (xs (x3 + (1 : Int32)).toNatClampNeg) s0 t0 hR
  refine lv_aload_n hx hb dL_law_595 rfl (lv_at hl 1 rfl) (W.pc 596 rfl ?_)
  refine lv_aload_n hx hb dL_law_596 rfl (lv_at hl 0 rfl) (W.pc 597 rfl ?_)
  refine lv_iload_n hx hb dL_law_597 rfl (lv_at hl 3 rfl) (W.pc 598 rfl ?_)
  refine lv_iconst (v := (1 : Int32)) hx hb dL_law_598 (by decide) (W.pc 599 rfl ?_)
  refine lv_iadd hx hb dL_law_599 (W.pc 600 rfl ?_)
  refine va_sld hx hb hX0 hbl hbA hS (hin 1 (by decide)) dL_law_600 (W.pc 601 rfl ?_)
  refine kVl (st1 := [.int r]) hX (L7_rolls l E ad (xs (x3 + (1 : Int32)).toNatClampNeg) s0 r s1 h7) B_X7_rolls w_3_80 hK hPa hPb hD hS hA (q0 := 0) (ci := 4) rfl rfl rfl rfl hl.1 rfl (Nat.le_of_ble_eq_true rfl) ⟨Nat.le_of_ble_eq_true rfl, Nat.le_of_ble_eq_true rfl⟩ ⟨Nat.le_of_ble_eq_true rfl, Nat.le_of_ble_eq_true rfl⟩ dL_law_601 rfl (fun H locs hPa hPb hD hS => W.pc 604 rfl ?_)
  refine lv_aload_n hx hb dL_law_604 rfl (lv_at hl 2 rfl) (W.pc 605 rfl ?_)
  refine lv_aload_n hx hb dL_law_605 rfl (lv_at hl 0 rfl) (W.pc 606 rfl ?_)
  refine lv_iload_n hx hb dL_law_606 rfl (lv_at hl 3 rfl) (W.pc 607 rfl ?_)
  refine lv_iconst (v := (1 : Int32)) hx hb dL_law_607 (by decide) (W.pc 608 rfl ?_)
  refine lv_iadd hx hb dL_law_608 (W.pc 609 rfl ?_)
  refine va_sld hx hb hX0 hbl hbA hS (hin 1 (by decide)) dL_law_609 (W.pc 610 rfl ?_)
  refine kVr (st1 := [.int r, .int r]) hX (L8_rolls l E md (xs (x3 + (1 : Int32)).toNatClampNeg) t0 r t1 h8) B_X8_rolls w_5_69 hK hPa hPb hD hS hA (q0 := 0) (ci := 5) rfl rfl rfl rfl hl.1 rfl (Nat.le_of_ble_eq_true rfl) ⟨Nat.le_of_ble_eq_true rfl, Nat.le_of_ble_eq_true rfl⟩ ⟨Nat.le_of_ble_eq_true rfl, Nat.le_of_ble_eq_true rfl⟩ dL_law_610 rfl (fun H locs hPa hPb hD hS => W.pc 613 rfl ?_)
  refine lv_icmp_eq (tgt := 1216) hx hb dL_law_613 (by decide) (fun _ => ?_) (fun q => absurd rfl q)
  exact K s1 t1 hR1 _ _ _ hPa hPb hD hS hl
set_option maxHeartbeats 4000000 in
set_option maxRecDepth 100000 in
theorem law_16 {p : Program} {l : Launch} {e : Env} {s : State} {m : MethodId} {below : List Frame} {meth : Method} {c : Code} {b L : Nat} {xs : Nat → Int32} {REL : CSt → MSt → Prop} (hst : ∀ (p1 : Int32) (s : CSt) (t : MSt), REL s t → ∃ (r : Int32) (s1 : CSt) (t1 : MSt), S7_lies p1 s = some (r, s1) ∧ S8_lies p1 t = some (r, t1) ∧ REL s1 t1) (C0 : lw_At p s m meth c b L xs) {x3 : Int32} (hin : ∀ j : Nat, j < 6 → vp_in (x3 + nI j) L) {E : wE} {Z : sE} (hK : wK E s) (hF : SF Z (fun q : Nat => s.heap.size ≤ q) s s.heap) {ad md : Nat → Nat} {s0 : CSt} {t0 : MSt} (hR : REL s0 t0) (K : ∀ (s1 : CSt) (t1 : MSt), REL s1 t1 → ∀ (H : Heap) (locs : List Loc) (ls : Array Slot), wP E (CW E ad s1) H → wP E (MWd E md t1) H → va_D (fun q : Nat => s.heap.size ≤ q) (CW E ad s1 ++ MWd E md t1) → va_S (fun q : Nat => s.heap.size ≤ q) s.heap H locs → lv_has ls 4 [(0, .ref b), (1, .ref (ad 0)), (2, .ref (md 0)), (3, .int x3)] → W p l e room_1 s m #[Value.ref b] below meth c H locs 200 6980 (lw_Z below #[Value.ref b] s) (F0 m 1216 ls [])) : ∀ (H : Heap) (locs : List Loc) (ls : Array Slot), wP E (CW E ad s0) H → wP E (MWd E md t0) H → va_D (fun q : Nat => s.heap.size ≤ q) (CW E ad s0 ++ MWd E md t0) → va_S (fun q : Nat => s.heap.size ≤ q) s.heap H locs → lv_has ls 4 [(0, .ref b), (1, .ref (ad 0)), (2, .ref (md 0)), (3, .int x3)] → W p l e room_1 s m #[Value.ref b] below meth c H locs 200 6980 (lw_Z below #[Value.ref b] s) (F0 m 618 ls []) := by
  intro H locs ls hPa hPb hD hS hl
  obtain ⟨hx, hb, hr, hml, hown, hts, hX0, hbl, hlocks, hgv⟩ := C0
  have hA : ∀ q : Nat, s.heap.size ≤ q → (fun q : Nat => s.heap.size ≤ q) q := fun _ h => h
  have hbA : ¬ (fun q : Nat => s.heap.size ≤ q) b := Nat.not_le.mpr hbl
  have hX : CX p s m #[Value.ref b] meth c code 4 ret RL := ⟨hx, hb, hr, hml, fun w hw => hts w (List.mem_filter.mp hw).1, hown, hlocks, wN.of (fun w hw => hts w (List.mem_append_right _ hw))⟩
  obtain ⟨r, s1, t1, h7, h8, hR1⟩ := hst (xs (x3 + (1 : Int32)).toNatClampNeg) s0 t0 hR
  refine lv_aload_n hx hb dL_law_618 rfl (lv_at hl 1 rfl) (W.pc 619 rfl ?_)
  refine lv_aload_n hx hb dL_law_619 rfl (lv_at hl 0 rfl) (W.pc 620 rfl ?_)
  refine lv_iload_n hx hb dL_law_620 rfl (lv_at hl 3 rfl) (W.pc 621 rfl ?_)
  refine lv_iconst (v := (1 : Int32)) hx hb dL_law_621 (by decide) (W.pc 622 rfl ?_)
  refine lv_iadd hx hb dL_law_622 (W.pc 623 rfl ?_)
  refine va_sld hx hb hX0 hbl hbA hS (hin 1 (by decide)) dL_law_623 (W.pc 624 rfl ?_)
  refine kVl (st1 := [.int r]) hX (L7_lies l E ad (xs (x3 + (1 : Int32)).toNatClampNeg) s0 r s1 h7) B_X7_lies w_3_87 hK hPa hPb hD hS hA (q0 := 0) (ci := 4) rfl rfl rfl rfl hl.1 rfl (Nat.le_of_ble_eq_true rfl) ⟨Nat.le_of_ble_eq_true rfl, Nat.le_of_ble_eq_true rfl⟩ ⟨Nat.le_of_ble_eq_true rfl, Nat.le_of_ble_eq_true rfl⟩ dL_law_624 rfl (fun H locs hPa hPb hD hS => W.pc 627 rfl ?_)
  refine lv_aload_n hx hb dL_law_627 rfl (lv_at hl 2 rfl) (W.pc 628 rfl ?_)
  refine lv_aload_n hx hb dL_law_628 rfl (lv_at hl 0 rfl) (W.pc 629 rfl ?_)
  refine lv_iload_n hx hb dL_law_629 rfl (lv_at hl 3 rfl) (W.pc 630 rfl ?_)
  refine lv_iconst (v := (1 : Int32)) hx hb dL_law_630 (by decide) (W.pc 631 rfl ?_)
  refine lv_iadd hx hb dL_law_631 (W.pc 632 rfl ?_)
  refine va_sld hx hb hX0 hbl hbA hS (hin 1 (by decide)) dL_law_632 (W.pc 633 rfl ?_)
  refine kVr (st1 := [.int r, .int r]) hX (L8_lies l E md (xs (x3 + (1 : Int32)).toNatClampNeg) t0 r t1 h8) B_X8_lies w_5_73 hK hPa hPb hD hS hA (q0 := 0) (ci := 5) rfl rfl rfl rfl hl.1 rfl (Nat.le_of_ble_eq_true rfl) ⟨Nat.le_of_ble_eq_true rfl, Nat.le_of_ble_eq_true rfl⟩ ⟨Nat.le_of_ble_eq_true rfl, Nat.le_of_ble_eq_true rfl⟩ dL_law_633 rfl (fun H locs hPa hPb hD hS => W.pc 636 rfl ?_)
  refine lv_icmp_eq (tgt := 1216) hx hb dL_law_636 (by decide) (fun _ => ?_) (fun q => absurd rfl q)
  exact K s1 t1 hR1 _ _ _ hPa hPb hD hS hl
set_option maxHeartbeats 4000000 in
set_option maxRecDepth 100000 in
theorem law_17 {p : Program} {l : Launch} {e : Env} {s : State} {m : MethodId} {below : List Frame} {meth : Method} {c : Code} {b L : Nat} {xs : Nat → Int32} {REL : CSt → MSt → Prop} (hst : ∀ (p1 p2 : Int32) (s : CSt) (t : MSt), REL s t → ∃ (r : Int32) (s1 : CSt) (t1 : MSt), S7_pass p1 p2 s = some (r, s1) ∧ S8_pass p1 p2 t = some (r, t1) ∧ REL s1 t1) (C0 : lw_At p s m meth c b L xs) {x3 : Int32} (hin : ∀ j : Nat, j < 6 → vp_in (x3 + nI j) L) {E : wE} {Z : sE} (hK : wK E s) (hF : SF Z (fun q : Nat => s.heap.size ≤ q) s s.heap) {ad md : Nat → Nat} {s0 : CSt} {t0 : MSt} (hR : REL s0 t0) (K : ∀ (s1 : CSt) (t1 : MSt), REL s1 t1 → ∀ (H : Heap) (locs : List Loc) (ls : Array Slot), wP E (CW E ad s1) H → wP E (MWd E md t1) H → va_D (fun q : Nat => s.heap.size ≤ q) (CW E ad s1 ++ MWd E md t1) → va_S (fun q : Nat => s.heap.size ≤ q) s.heap H locs → lv_has ls 4 [(0, .ref b), (1, .ref (ad 0)), (2, .ref (md 0)), (3, .int x3)] → W p l e room_1 s m #[Value.ref b] below meth c H locs 200 6980 (lw_Z below #[Value.ref b] s) (F0 m 1216 ls [])) : ∀ (H : Heap) (locs : List Loc) (ls : Array Slot), wP E (CW E ad s0) H → wP E (MWd E md t0) H → va_D (fun q : Nat => s.heap.size ≤ q) (CW E ad s0 ++ MWd E md t0) → va_S (fun q : Nat => s.heap.size ≤ q) s.heap H locs → lv_has ls 4 [(0, .ref b), (1, .ref (ad 0)), (2, .ref (md 0)), (3, .int x3)] → W p l e room_1 s m #[Value.ref b] below meth c H locs 200 6980 (lw_Z below #[Value.ref b] s) (F0 m 641 ls []) := by
  intro H locs ls hPa hPb hD hS hl
  obtain ⟨hx, hb, hr, hml, hown, hts, hX0, hbl, hlocks, hgv⟩ := C0
  have hA : ∀ q : Nat, s.heap.size ≤ q → (fun q : Nat => s.heap.size ≤ q) q := fun _ h => h
  have hbA : ¬ (fun q : Nat => s.heap.size ≤ q) b := Nat.not_le.mpr hbl
  have hX : CX p s m #[Value.ref b] meth c code 4 ret RL := ⟨hx, hb, hr, hml, fun w hw => hts w (List.mem_filter.mp hw).1, hown, hlocks, wN.of (fun w hw => hts w (List.mem_append_right _ hw))⟩
  obtain ⟨r, s1, t1, h7, h8, hR1⟩ := hst (xs (x3 + (1 : Int32)).toNatClampNeg) (xs (x3 + (2 : Int32)).toNatClampNeg) s0 t0 hR
  refine lv_aload_n hx hb dL_law_641 rfl (lv_at hl 1 rfl) (W.pc 642 rfl ?_)
  refine lv_aload_n hx hb dL_law_642 rfl (lv_at hl 0 rfl) (W.pc 643 rfl ?_)
  refine lv_iload_n hx hb dL_law_643 rfl (lv_at hl 3 rfl) (W.pc 644 rfl ?_)
  refine lv_iconst (v := (1 : Int32)) hx hb dL_law_644 (by decide) (W.pc 645 rfl ?_)
  refine lv_iadd hx hb dL_law_645 (W.pc 646 rfl ?_)
  refine va_sld hx hb hX0 hbl hbA hS (hin 1 (by decide)) dL_law_646 (W.pc 647 rfl ?_)
  refine lv_aload_n hx hb dL_law_647 rfl (lv_at hl 0 rfl) (W.pc 648 rfl ?_)
  refine lv_iload_n hx hb dL_law_648 rfl (lv_at hl 3 rfl) (W.pc 649 rfl ?_)
  refine lv_iconst (v := (2 : Int32)) hx hb dL_law_649 (by decide) (W.pc 650 rfl ?_)
  refine lv_iadd hx hb dL_law_650 (W.pc 651 rfl ?_)
  refine va_sld hx hb hX0 hbl hbA hS (hin 2 (by decide)) dL_law_651 (W.pc 652 rfl ?_)
  refine kVl (st1 := [.int r]) hX (L7_pass l E ad (xs (x3 + (1 : Int32)).toNatClampNeg) (xs (x3 + (2 : Int32)).toNatClampNeg) s0 r s1 h7) B_X7_pass w_3_99 hK hPa hPb hD hS hA (q0 := 0) (ci := 4) rfl rfl rfl rfl hl.1 rfl (Nat.le_of_ble_eq_true rfl) ⟨Nat.le_of_ble_eq_true rfl, Nat.le_of_ble_eq_true rfl⟩ ⟨Nat.le_of_ble_eq_true rfl, Nat.le_of_ble_eq_true rfl⟩ dL_law_652 rfl (fun H locs hPa hPb hD hS => W.pc 655 rfl ?_)
  refine lv_aload_n hx hb dL_law_655 rfl (lv_at hl 2 rfl) (W.pc 656 rfl ?_)
  refine lv_aload_n hx hb dL_law_656 rfl (lv_at hl 0 rfl) (W.pc 657 rfl ?_)
  refine lv_iload_n hx hb dL_law_657 rfl (lv_at hl 3 rfl) (W.pc 658 rfl ?_)
  refine lv_iconst (v := (1 : Int32)) hx hb dL_law_658 (by decide) (W.pc 659 rfl ?_)
  refine lv_iadd hx hb dL_law_659 (W.pc 660 rfl ?_)
  refine va_sld hx hb hX0 hbl hbA hS (hin 1 (by decide)) dL_law_660 (W.pc 661 rfl ?_)
  refine lv_aload_n hx hb dL_law_661 rfl (lv_at hl 0 rfl) (W.pc 662 rfl ?_)
  refine lv_iload_n hx hb dL_law_662 rfl (lv_at hl 3 rfl) (W.pc 663 rfl ?_)
  refine lv_iconst (v := (2 : Int32)) hx hb dL_law_663 (by decide) (W.pc 664 rfl ?_)
  refine lv_iadd hx hb dL_law_664 (W.pc 665 rfl ?_)
  refine va_sld hx hb hX0 hbl hbA hS (hin 2 (by decide)) dL_law_665 (W.pc 666 rfl ?_)
  refine kVr (st1 := [.int r, .int r]) hX (L8_pass l E md (xs (x3 + (1 : Int32)).toNatClampNeg) (xs (x3 + (2 : Int32)).toNatClampNeg) t0 r t1 h8) B_X8_pass w_5_81 hK hPa hPb hD hS hA (q0 := 0) (ci := 5) rfl rfl rfl rfl hl.1 rfl (Nat.le_of_ble_eq_true rfl) ⟨Nat.le_of_ble_eq_true rfl, Nat.le_of_ble_eq_true rfl⟩ ⟨Nat.le_of_ble_eq_true rfl, Nat.le_of_ble_eq_true rfl⟩ dL_law_666 rfl (fun H locs hPa hPb hD hS => W.pc 669 rfl ?_)
  refine lv_icmp_eq (tgt := 1216) hx hb dL_law_669 (by decide) (fun _ => ?_) (fun q => absurd rfl q)
  exact K s1 t1 hR1 _ _ _ hPa hPb hD hS hl
set_option maxHeartbeats 4000000 in
set_option maxRecDepth 100000 in
theorem law_18 {p : Program} {l : Launch} {e : Env} {s : State} {m : MethodId} {below : List Frame} {meth : Method} {c : Code} {b L : Nat} {xs : Nat → Int32} {REL : CSt → MSt → Prop} (hst : ∀ (p1 p2 : Int32) (s : CSt) (t : MSt), REL s t → ∃ (r : Int32) (s1 : CSt) (t1 : MSt), S7_order p1 p2 s = some (r, s1) ∧ S8_order p1 p2 t = some (r, t1) ∧ REL s1 t1) (C0 : lw_At p s m meth c b L xs) {x3 : Int32} (hin : ∀ j : Nat, j < 6 → vp_in (x3 + nI j) L) {E : wE} {Z : sE} (hK : wK E s) (hF : SF Z (fun q : Nat => s.heap.size ≤ q) s s.heap) {ad md : Nat → Nat} {s0 : CSt} {t0 : MSt} (hR : REL s0 t0) (K : ∀ (s1 : CSt) (t1 : MSt), REL s1 t1 → ∀ (H : Heap) (locs : List Loc) (ls : Array Slot), wP E (CW E ad s1) H → wP E (MWd E md t1) H → va_D (fun q : Nat => s.heap.size ≤ q) (CW E ad s1 ++ MWd E md t1) → va_S (fun q : Nat => s.heap.size ≤ q) s.heap H locs → lv_has ls 4 [(0, .ref b), (1, .ref (ad 0)), (2, .ref (md 0)), (3, .int x3)] → W p l e room_1 s m #[Value.ref b] below meth c H locs 200 6980 (lw_Z below #[Value.ref b] s) (F0 m 1216 ls [])) : ∀ (H : Heap) (locs : List Loc) (ls : Array Slot), wP E (CW E ad s0) H → wP E (MWd E md t0) H → va_D (fun q : Nat => s.heap.size ≤ q) (CW E ad s0 ++ MWd E md t0) → va_S (fun q : Nat => s.heap.size ≤ q) s.heap H locs → lv_has ls 4 [(0, .ref b), (1, .ref (ad 0)), (2, .ref (md 0)), (3, .int x3)] → W p l e room_1 s m #[Value.ref b] below meth c H locs 200 6980 (lw_Z below #[Value.ref b] s) (F0 m 674 ls []) := by
  intro H locs ls hPa hPb hD hS hl
  obtain ⟨hx, hb, hr, hml, hown, hts, hX0, hbl, hlocks, hgv⟩ := C0
  have hA : ∀ q : Nat, s.heap.size ≤ q → (fun q : Nat => s.heap.size ≤ q) q := fun _ h => h
  have hbA : ¬ (fun q : Nat => s.heap.size ≤ q) b := Nat.not_le.mpr hbl
  have hX : CX p s m #[Value.ref b] meth c code 4 ret RL := ⟨hx, hb, hr, hml, fun w hw => hts w (List.mem_filter.mp hw).1, hown, hlocks, wN.of (fun w hw => hts w (List.mem_append_right _ hw))⟩
  obtain ⟨r, s1, t1, h7, h8, hR1⟩ := hst (xs (x3 + (1 : Int32)).toNatClampNeg) (xs (x3 + (2 : Int32)).toNatClampNeg) s0 t0 hR
  refine lv_aload_n hx hb dL_law_674 rfl (lv_at hl 1 rfl) (W.pc 675 rfl ?_)
  refine lv_aload_n hx hb dL_law_675 rfl (lv_at hl 0 rfl) (W.pc 676 rfl ?_)
  refine lv_iload_n hx hb dL_law_676 rfl (lv_at hl 3 rfl) (W.pc 677 rfl ?_)
  refine lv_iconst (v := (1 : Int32)) hx hb dL_law_677 (by decide) (W.pc 678 rfl ?_)
  refine lv_iadd hx hb dL_law_678 (W.pc 679 rfl ?_)
  refine va_sld hx hb hX0 hbl hbA hS (hin 1 (by decide)) dL_law_679 (W.pc 680 rfl ?_)
  refine lv_aload_n hx hb dL_law_680 rfl (lv_at hl 0 rfl) (W.pc 681 rfl ?_)
  refine lv_iload_n hx hb dL_law_681 rfl (lv_at hl 3 rfl) (W.pc 682 rfl ?_)
  refine lv_iconst (v := (2 : Int32)) hx hb dL_law_682 (by decide) (W.pc 683 rfl ?_)
  refine lv_iadd hx hb dL_law_683 (W.pc 684 rfl ?_)
  refine va_sld hx hb hX0 hbl hbA hS (hin 2 (by decide)) dL_law_684 (W.pc 685 rfl ?_)
  refine kVl (st1 := [.int r]) hX (L7_order l E ad (xs (x3 + (1 : Int32)).toNatClampNeg) (xs (x3 + (2 : Int32)).toNatClampNeg) s0 r s1 h7) B_X7_order w_3_108 hK hPa hPb hD hS hA (q0 := 0) (ci := 4) rfl rfl rfl rfl hl.1 rfl (Nat.le_of_ble_eq_true rfl) ⟨Nat.le_of_ble_eq_true rfl, Nat.le_of_ble_eq_true rfl⟩ ⟨Nat.le_of_ble_eq_true rfl, Nat.le_of_ble_eq_true rfl⟩ dL_law_685 rfl (fun H locs hPa hPb hD hS => W.pc 688 rfl ?_)
  refine lv_aload_n hx hb dL_law_688 rfl (lv_at hl 2 rfl) (W.pc 689 rfl ?_)
  refine lv_aload_n hx hb dL_law_689 rfl (lv_at hl 0 rfl) (W.pc 690 rfl ?_)
  refine lv_iload_n hx hb dL_law_690 rfl (lv_at hl 3 rfl) (W.pc 691 rfl ?_)
  refine lv_iconst (v := (1 : Int32)) hx hb dL_law_691 (by decide) (W.pc 692 rfl ?_)
  refine lv_iadd hx hb dL_law_692 (W.pc 693 rfl ?_)
  refine va_sld hx hb hX0 hbl hbA hS (hin 1 (by decide)) dL_law_693 (W.pc 694 rfl ?_)
  refine lv_aload_n hx hb dL_law_694 rfl (lv_at hl 0 rfl) (W.pc 695 rfl ?_)
  refine lv_iload_n hx hb dL_law_695 rfl (lv_at hl 3 rfl) (W.pc 696 rfl ?_)
  refine lv_iconst (v := (2 : Int32)) hx hb dL_law_696 (by decide) (W.pc 697 rfl ?_)
  refine lv_iadd hx hb dL_law_697 (W.pc 698 rfl ?_)
  refine va_sld hx hb hX0 hbl hbA hS (hin 2 (by decide)) dL_law_698 (W.pc 699 rfl ?_)
  refine kVr (st1 := [.int r, .int r]) hX (L8_order l E md (xs (x3 + (1 : Int32)).toNatClampNeg) (xs (x3 + (2 : Int32)).toNatClampNeg) t0 r t1 h8) B_X8_order w_5_85 hK hPa hPb hD hS hA (q0 := 0) (ci := 5) rfl rfl rfl rfl hl.1 rfl (Nat.le_of_ble_eq_true rfl) ⟨Nat.le_of_ble_eq_true rfl, Nat.le_of_ble_eq_true rfl⟩ ⟨Nat.le_of_ble_eq_true rfl, Nat.le_of_ble_eq_true rfl⟩ dL_law_699 rfl (fun H locs hPa hPb hD hS => W.pc 702 rfl ?_)
  refine lv_icmp_eq (tgt := 1216) hx hb dL_law_702 (by decide) (fun _ => ?_) (fun q => absurd rfl q)
  exact K s1 t1 hR1 _ _ _ hPa hPb hD hS hl
