theorem w_2_105 : Cond.methodLink RJ0 1059 yJ3_checkIndex_8e157 ∈ TBL := TBL_t (tin2 (List.mem_of_getElem? (i := 105) (by decide +kernel))) (by decide +kernel)
theorem w_2_103 : Cond.fieldLink RJ0 1053 "jdk/internal/util/Preconditions" "SIOOBE_FORMATTER" "Ljava/util/function/BiFunction;" ∈ TBL := TBL_t (tin2 (List.mem_of_getElem? (i := 103) (by decide +kernel))) (by decide +kernel)
theorem w_2_100 : Cond.methodLink RJ1 9 yJ0_checkIndex_df160 ∈ TBL := TBL_t (tin2 (List.mem_of_getElem? (i := 100) (by decide +kernel))) (by decide +kernel)
theorem w_2_87 : Cond.fieldLink RJ0 38 "java/lang/String" "COMPACT_STRINGS" "Z" ∈ TBL := TBL_t (tin2 (List.mem_of_getElem? (i := 87) (by decide +kernel))) (by decide +kernel)
theorem w_5_220 : Cond.fieldLink RJ0 15 "java/lang/String" "coder" "B" ∈ TBL := TBL_t (tin5 (List.mem_of_getElem? (i := 220) (by decide +kernel))) (by decide +kernel)
theorem w_5_219 : Cond.fieldLink RJ0 9 "java/lang/String" "value" "[B" ∈ TBL := TBL_t (tin5 (List.mem_of_getElem? (i := 219) (by decide +kernel))) (by decide +kernel)
theorem w_2_83 : Cond.methodLink RJ0 335 yJ0_coder_7d493 ∈ TBL := TBL_t (tin2 (List.mem_of_getElem? (i := 83) (by decide +kernel))) (by decide +kernel)
theorem w_2_93 : Cond.methodLink RJ0 492 yJ0_isLatin1_aae02 ∈ TBL := TBL_t (tin2 (List.mem_of_getElem? (i := 93) (by decide +kernel))) (by decide +kernel)
theorem w_2_97 : Cond.methodLink RJ0 495 yJ1_charAt_3b067 ∈ TBL := TBL_t (tin2 (List.mem_of_getElem? (i := 97) (by decide +kernel))) (by decide +kernel)
theorem w_2_107 : Cond.code yJ3_checkIndex_8e157 cJ3_checkIndex_8e157 3 (some .int) ∈ TBL := TBL_t (tin2 (List.mem_of_getElem? (i := 107) (by decide +kernel))) (by decide +kernel)
theorem w_2_106 : Cond.static yJ3_checkIndex_8e157 ∈ TBL := TBL_t (tin2 (List.mem_of_getElem? (i := 106) (by decide +kernel))) (by decide +kernel)
theorem w_1_10 : Cond.initialized RJ3 ∈ TBL := TBL_t (tin1 (List.mem_of_getElem? (i := 10) (by decide +kernel))) (by decide +kernel)
theorem w_2_102 : Cond.code yJ0_checkIndex_df160 cJ0_checkIndex_df160 2 none ∈ TBL := TBL_t (tin2 (List.mem_of_getElem? (i := 102) (by decide +kernel))) (by decide +kernel)
theorem w_2_101 : Cond.static yJ0_checkIndex_df160 ∈ TBL := TBL_t (tin2 (List.mem_of_getElem? (i := 101) (by decide +kernel))) (by decide +kernel)
theorem w_1_8 : Cond.initialized RJ0 ∈ TBL := TBL_t (tin1 (List.mem_of_getElem? (i := 8) (by decide +kernel))) (by decide +kernel)
theorem w_2_99 : Cond.code yJ1_charAt_3b067 cJ1_charAt_3b067 2 (some .char) ∈ TBL := TBL_t (tin2 (List.mem_of_getElem? (i := 99) (by decide +kernel))) (by decide +kernel)
theorem w_2_98 : Cond.static yJ1_charAt_3b067 ∈ TBL := TBL_t (tin2 (List.mem_of_getElem? (i := 98) (by decide +kernel))) (by decide +kernel)
theorem w_1_9 : Cond.initialized RJ1 ∈ TBL := TBL_t (tin1 (List.mem_of_getElem? (i := 9) (by decide +kernel))) (by decide +kernel)
theorem w_2_85 : Cond.selects yJ0_coder_7d493.cls yJ0_coder_7d493 yJ0_coder_7d493 ∈ TBL := TBL_t (tin2 (List.mem_of_getElem? (i := 85) (by decide +kernel))) (by decide +kernel)
theorem w_2_86 : Cond.code yJ0_coder_7d493 cJ0_coder_7d493 1 (some .byte) ∈ TBL := TBL_t (tin2 (List.mem_of_getElem? (i := 86) (by decide +kernel))) (by decide +kernel)
theorem w_2_84 : Cond.instanceMethod yJ0_coder_7d493 ∈ TBL := TBL_t (tin2 (List.mem_of_getElem? (i := 84) (by decide +kernel))) (by decide +kernel)
theorem w_2_95 : Cond.selects yJ0_isLatin1_aae02.cls yJ0_isLatin1_aae02 yJ0_isLatin1_aae02 ∈ TBL := TBL_t (tin2 (List.mem_of_getElem? (i := 95) (by decide +kernel))) (by decide +kernel)
theorem w_2_96 : Cond.code yJ0_isLatin1_aae02 cJ0_isLatin1_aae02 1 (some .boolean) ∈ TBL := TBL_t (tin2 (List.mem_of_getElem? (i := 96) (by decide +kernel))) (by decide +kernel)
theorem w_2_94 : Cond.instanceMethod yJ0_isLatin1_aae02 ∈ TBL := TBL_t (tin2 (List.mem_of_getElem? (i := 94) (by decide +kernel))) (by decide +kernel)
theorem w_2_81 : Cond.selects yJ0_length_8abf5.cls yJ0_length_8abf5 yJ0_length_8abf5 ∈ TBL := TBL_t (tin2 (List.mem_of_getElem? (i := 81) (by decide +kernel))) (by decide +kernel)
theorem w_2_82 : Cond.code yJ0_length_8abf5 cJ0_length_8abf5 1 (some .int) ∈ TBL := TBL_t (tin2 (List.mem_of_getElem? (i := 82) (by decide +kernel))) (by decide +kernel)
theorem w_2_80 : Cond.instanceMethod yJ0_length_8abf5 ∈ TBL := TBL_t (tin2 (List.mem_of_getElem? (i := 80) (by decide +kernel))) (by decide +kernel)
theorem w_2_91 : Cond.selects yJ0_charAt_5068e.cls yJ0_charAt_5068e yJ0_charAt_5068e ∈ TBL := TBL_t (tin2 (List.mem_of_getElem? (i := 91) (by decide +kernel))) (by decide +kernel)
theorem w_2_92 : Cond.code yJ0_charAt_5068e cJ0_charAt_5068e 2 (some .char) ∈ TBL := TBL_t (tin2 (List.mem_of_getElem? (i := 92) (by decide +kernel))) (by decide +kernel)
theorem w_2_90 : Cond.instanceMethod yJ0_charAt_5068e ∈ TBL := TBL_t (tin2 (List.mem_of_getElem? (i := 90) (by decide +kernel))) (by decide +kernel)
theorem B_J3_checkIndex_8e157 : cS yJ3_checkIndex_8e157 cJ3_checkIndex_8e157 3 (some .int) 3 := ⟨w_2_107, w_2_106, w_1_10, by decide +kernel⟩
theorem B_J0_checkIndex_df160 : cS yJ0_checkIndex_df160 cJ0_checkIndex_df160 2 none 2 := ⟨w_2_102, w_2_101, w_1_8, by decide +kernel⟩
theorem B_J1_charAt_3b067 : cS yJ1_charAt_3b067 cJ1_charAt_3b067 2 (some .char) 2 := ⟨w_2_99, w_2_98, w_1_9, by decide +kernel⟩
theorem B_J0_coder_7d493 : cV yJ0_coder_7d493 cJ0_coder_7d493 1 (some .byte) 0 := ⟨w_2_86, w_2_84, w_2_85, w_1_8, by decide +kernel⟩
theorem B_J0_isLatin1_aae02 : cV yJ0_isLatin1_aae02 cJ0_isLatin1_aae02 1 (some .boolean) 0 := ⟨w_2_96, w_2_94, w_2_95, w_1_8, by decide +kernel⟩
theorem B_J0_length_8abf5 : cV yJ0_length_8abf5 cJ0_length_8abf5 1 (some .int) 0 := ⟨w_2_82, w_2_80, w_2_81, w_1_8, by decide +kernel⟩
theorem B_J0_charAt_5068e : cV yJ0_charAt_5068e cJ0_charAt_5068e 2 (some .char) 1 := ⟨w_2_92, w_2_90, w_2_91, w_1_8, by decide +kernel⟩
abbrev nJS : Nat := 5
def lenJS : List Nat := [4, 5, 5, 6, 5]
def bytJS : List (List Int32) := [[116, 111, 119, 110], [112, 117, 108, 108, 115], [98, 117, 105, 108, 100], [115, 116, 114, 105, 110, 103], [121, 101, 97, 114, 115]]
def idxJS : Nat → Nat := fun i => ([35, 58, 63, 78, 80] : List Nat).getD i 0
def txJS : Nat → String := fun i => (["town", "pulls", "build", "string", "years"] : List String).getD i ""
def lnJ (i : Nat) : Nat := lenJS.getD i 0
def chJ (i : Nat) (x : Int32) : Int32 := (bytJS.getD i []).getD x.toNatClampNeg 0 &&& 255
abbrev sE : Type := (Nat → Nat) × (Nat → Nat)
theorem lnJ_lt {i : Nat} (hi : i < nJS) : lnJ i < 2 ^ 31 := by
  match i, hi with
  | 0, _ => decide
  | 1, _ => decide
  | 2, _ => decide
  | 3, _ => decide
  | 4, _ => decide
/-- the literals and the JDK's own values, that no cell of A is -/
def SF (Z : sE) (A : Nat → Prop) (U : State) (H : Heap) : Prop :=
  vk_S nJS lenJS bytJS Z.1 Z.2 A U H ∧ (∀ i : Nat, i < nJS → vk_R RX5 (idxJS i) (txJS i) (Z.1 i) U) ∧ va_Z "java/lang/String" "COMPACT_STRINGS" "Z" (.int 1) A U H ∧ va_Zq "jdk/internal/util/Preconditions" "SIOOBE_FORMATTER" "Ljava/util/function/BiFunction;" A U H
theorem SF.kept {Z : sE} {A : Nat → Prop} {U : State} {H H1 : Heap} (h : SF Z A U H) (hq : ∀ a : Nat, a < H.size → ¬ A a → H1[a]? = H[a]?) : SF Z A U H1 := ⟨h.1.kept hq, h.2.1, h.2.2.1.kept hq, h.2.2.2.kept hq⟩
theorem SF.narrow {Z : sE} {A B : Nat → Prop} {U : State} {H : Heap} (h : SF Z A U H) (hAB : ∀ q, B q → A q) : SF Z B U H := ⟨h.1.narrow hAB, h.2.1, h.2.2.1.narrow hAB, h.2.2.2.narrow hAB⟩
theorem SF.warm {Z : sE} {A : Nat → Prop} {s U : State} {H : Heap} (hW : s.WarmedH U.vm) (h : SF Z A s H) : SF Z A U H := ⟨h.1.moved hW.alike, fun i hi => vk_R.warm hW (h.2.1 i hi), h.2.2.1.moved hW.alike, h.2.2.2.moved hW.alike⟩
theorem SF.call {Z : sE} {A : Nat → Prop} {U : State} {H : Heap} {g : JFrame} {mk : MethodId} {a : Array Value} (h : SF Z A U H) : SF Z A (U.calling g mk a) H := ⟨h.1.moved (U := U.calling g mk a) (Vm.Alike.refl U.vm), fun i hi => vk_R.same (U := U.calling g mk a) rfl (h.2.1 i hi), h.2.2.1.moved (U := U.calling g mk a) (Vm.Alike.refl U.vm), h.2.2.2.moved (U := U.calling g mk a) (Vm.Alike.refl U.vm)⟩
def MRs (l : Launch) (y : MethodName) (cc : ByteArray) (maxL : Nat) (ret : Option FieldType) (d : Nat) (E : wE) (Z : sE) (av : List Value) (wc : va_W) (rv : Option Value) : Prop :=
  Met l y (.code y cc maxL ret :: TBL) (wR d) (va_Pc av (fun U => (wP E wc U.heap ∧ wK2 E U) ∧ SF Z (fun _ => False) U U.heap)) (QRd E rv) 0 0 (fun _ => False)
def MWs (l : Launch) (y : MethodName) (cc : ByteArray) (maxL : Nat) (ret : Option FieldType) (d : Nat) (E : wE) (Z : sE) (av : List Value) (wc : va_W) (rv : Option Value) (w1 : va_W) : Prop :=
  ∀ sz : Nat, Met l y (.code y cc maxL ret :: TBL) (wR d) (va_Pc av (fun U => (U.heap.size = sz ∧ wP E wc U.heap ∧ wK2 E U ∧ va_D (fun _ => True) wc) ∧ SF Z (va_A wc sz) U U.heap)) (QWd E (va_A wc sz) rv w1) 0 0 (va_A wc sz)
theorem MRs.of {l : Launch} {y : MethodName} {cc : ByteArray} {maxL : Nat} {ret : Option FieldType} {d : Nat} {E : wE} {Z : sE} {av : List Value} {wc : va_W} {rv : Option Value} (hy : plainName y.cls = true) (hlen : (lg_sl av).length ≤ maxL)
    (body : ∀ (p : Program) (e : Env) (s : State) (m : MethodId) (below : List Frame) (meth : Method) (c : Code) (ls : Array Slot), CX p s m av.toArray meth c cc maxL ret y.cls → wK E s → SF Z (fun _ => False) s s.heap → wP E wc s.heap → lv_has ls maxL (lv_args 0 av) →
      W p l e (wR d) s m av.toArray below meth c s.heap [] 0 0 (MQ below (QRd E rv) av.toArray s 0 0 (fun _ => False)) (F0 m 0 ls [])) : MRs l y cc maxL ret d E Z av wc rv := by
  refine Met.ofW (cc := cc) (maxL := maxL) (ret := ret) hy rfl ?_
  intro p e s m args below meth c s₁ B hml hv
  obtain ⟨rfl, ⟨hP, ⟨hK, hN⟩⟩, hF⟩ := hv
  have hts := atoms_spec (ws := .code y cc maxL ret :: TBL) B.pre
  have hl := lv_entry av (n := maxL) hlen
  rw [lg_entry_eq]
  exact body p e s m below meth c _ ⟨B.exec, B.bytes, B.returns, hml, fun w hw => hts w (List.mem_cons_of_mem _ hw), findClass_of_methodNamed B.named, B.notSynchronized, hN⟩ hK hF hP hl
theorem MWs.of {l : Launch} {y : MethodName} {cc : ByteArray} {maxL : Nat} {ret : Option FieldType} {d : Nat} {E : wE} {Z : sE} {av : List Value} {wc : va_W} {rv : Option Value} {w1 : va_W} (hy : plainName y.cls = true) (hlen : (lg_sl av).length ≤ maxL)
    (body : ∀ (p : Program) (e : Env) (s : State) (m : MethodId) (below : List Frame) (meth : Method) (c : Code) (ls : Array Slot) (A : Nat → Prop), CX p s m av.toArray meth c cc maxL ret y.cls → wK E s → SF Z A s s.heap → wP E wc s.heap → va_D A wc → va_S A s.heap s.heap [] → (∀ q : Nat, s.heap.size ≤ q → A q) → lv_has ls maxL (lv_args 0 av) →
      W p l e (wR d) s m av.toArray below meth c s.heap [] 0 0 (MQ below (QWd E A rv w1) av.toArray s 0 0 A) (F0 m 0 ls [])) : MWs l y cc maxL ret d E Z av wc rv w1 := by
  intro sz
  refine Met.ofW (cc := cc) (maxL := maxL) (ret := ret) hy rfl ?_
  intro p e s m args below meth c s₁ B hml hv
  obtain ⟨rfl, ⟨hsz, hP, ⟨hK, hN⟩, hD⟩, hF⟩ := hv
  have hts := atoms_spec (ws := .code y cc maxL ret :: TBL) B.pre
  have hl := lv_entry av (n := maxL) hlen
  subst hsz
  rw [lg_entry_eq]
  exact body p e s m below meth c _ _ ⟨B.exec, B.bytes, B.returns, hml, fun w hw => hts w (List.mem_cons_of_mem _ hw), findClass_of_methodNamed B.named, B.notSynchronized, hN⟩ hK hF hP hD.self va_S.rf (fun q h => Or.inr h) hl
section KSS
variable {p : Program} {l : Launch} {e : Env} {R : Room} {s : State} {m : MethodId} {args : Array Value} {below : List Frame} {meth : Method} {c : Code} {H : Heap} {locs : List Loc} {Q : State → Prop} {pc : Nat} {ls : Array Slot} {rest st0 : List Value} {a : Array Value}
variable {y : MethodName} {cc cy : ByteArray} {maxL nL n index d : Nat} {ret ret0 : Option FieldType} {own : String} {As : List Value} {E : wE} {Z : sE} {wc : va_W} {rv : Option Value} {b : Nat}
theorem kSRs {A : Nat → Prop} {st1 : List Value} (hX : CX p s m args meth c cc nL ret0 own) (hM : MRs l y cy maxL ret d E Z As wc rv) (B : cS y cy maxL ret n) (hlink : Cond.methodLink own index y ∈ TBL) (hK : wK E s) (hF : SF Z A s H) (hPc : wP E wc H) (hn : As.length = n) (hsz : ls.size = nL) (hst : st0 = As.reverse ++ rest) (hrm : (rest.map fun v => v.category).sum ≤ 8) (hR : roomOk d maxL R) (hdg : decode cc pc = .ok (.invokestatic index, 3))
    (hst1 : rv.toList ++ rest = st1) (kk : W p l e R s m args below meth c H locs 0 0 Q (F0 m (pc + 3) ls st1)) : W p l e R s m args below meth c H locs 0 0 Q (F0 m pc ls st0) :=
  contR (kS0 (ws := []) (rm := R) hX hM B hlink ⟨fun _ _ _ _ q => ⟨q.1, ⟨q.2.1.1, (wK2.rf q.2.1.2 rfl)⟩, q.2.2.call⟩, fun U hU hW => ⟨rfl, ⟨by rw [hU]; exact hPc, ⟨va_K.moved hW.alike hK, wN.mv hW hX.2.2.2.2.2.2.2⟩⟩, by rw [hU]; exact (hF.narrow (fun q h => h.elim)).warm hW⟩⟩ hn hsz hst hrm hR hdg) (by rw [hst1]; exact kk)
theorem kVRs {A : Nat → Prop} {st1 : List Value} (hX : CX p s m args meth c cc nL ret0 own) (hM : MRs l y cy maxL ret d E Z (.ref b :: As) wc rv) (B : cV y cy maxL ret n) (hlink : Cond.methodLink own index y ∈ TBL) (hK : wK E s) (hF : SF Z A s H) (hPc : wP E wc H) (hrecv : ∃ cellB : Cell, H[b]? = some cellB ∧ cellB.vm.isStatics = false ∧ s.vm.findClass y.cls = some cellB.cls) (hn : As.length = n) (hsz : ls.size = nL) (hst : st0 = As.reverse ++ .ref b :: rest) (hrm : (rest.map fun v => v.category).sum ≤ 8) (hR : roomOk d maxL R) (hdg : decode cc pc = .ok (.invokevirtual index, 3))
    (hst1 : rv.toList ++ rest = st1) (kk : W p l e R s m args below meth c H locs 0 0 Q (F0 m (pc + 3) ls st1)) : W p l e R s m args below meth c H locs 0 0 Q (F0 m pc ls st0) :=
  contR (kV0 hX hM B hlink ⟨fun _ _ _ _ q => ⟨q.1, ⟨q.2.1.1, (wK2.rf q.2.1.2 rfl)⟩, q.2.2.call⟩, hrecv, fun U hU hW => ⟨rfl, ⟨by rw [hU]; exact hPc, ⟨va_K.moved hW.alike hK, wN.mv hW hX.2.2.2.2.2.2.2⟩⟩, by rw [hU]; exact (hF.narrow (fun q h => h.elim)).warm hW⟩⟩ hn hsz hst hrm hR hdg) (by rw [hst1]; exact kk)
theorem kVWs {st1 : List Value} {A : Nat → Prop} {H0 : Heap} {ws w1 ws' : va_W} (is : List Nat) (hX : CX p s m args meth c cc nL ret0 own) (hM : MWs l y cy maxL ret d E Z (.ref b :: As) wc rv w1) (B : cV y cy maxL ret n) (hlink : Cond.methodLink own index y ∈ TBL) (hK : wK E s) (hF : SF Z A s H) (hP : wP E ws H) (hD : va_D A ws) (hS : va_S A H0 H locs) (hA : ∀ q : Nat, H0.size ≤ q → A q) (hnd : va_nd is = true) (hC : is.map (fun i => ws[i]?) = wc.map some) (hA1 : w1.map Prod.fst = wc.map Prod.fst) (hw : wsSet ws is w1 = ws') {q0 ci : Nat} {q : vw_C} {fs : List Value} (hc : vwCl[ci]? = some q) (hqC : q.1 = y.cls) (hq : ws[q0]? = some (b, .inr (ci, fs))) (hn : As.length = n) (hsz : ls.size = nL) (hst : st0 = As.reverse ++ .ref b :: rest) (hrm : (rest.map fun v => v.category).sum ≤ 8) (hR : roomOk d maxL R) (hdg : decode cc pc = .ok (.invokevirtual index, 3))
    (hst1 : rv.toList ++ rest = st1) (kk : ∀ (H1 : Heap) (locs1 : List Loc), wP E ws' H1 → va_D A ws' → va_S A H0 H1 locs1 → W p l e R s m args below meth c H1 locs1 0 0 Q (F0 m (pc + 3) ls st1)) : W p l e R s m args below meth c H locs 0 0 Q (F0 m pc ls st0) :=
  contW is (kV0 hX (hM H.size) B hlink ⟨fun _ _ _ _ q => ⟨q.1, ⟨q.2.1.1, q.2.1.2.1, (wK2.rf q.2.1.2.2.1 rfl), q.2.1.2.2.2⟩, q.2.2.call⟩, by rw [← hqC]; exact va_recv hK hP hc hq, fun U hU hW => ⟨rfl, ⟨by rw [hU], by rw [hU]; exact hP.pick is hC, ⟨va_K.moved hW.alike hK, wN.mv hW hX.2.2.2.2.2.2.2⟩, hD.pick is hnd hC⟩, by rw [hU]; exact (hF.narrow (fr_free is hD hS hA hC)).warm hW⟩⟩ hn hsz hst hrm hR hdg) hP hD hS hA hC hA1 hw (by rw [hst1]; exact kk)
theorem rRv {maxL' : Nat} (hX : CX p s m args meth c cc maxL' none own) (hdg : decode cc pc = .ok (.return_, 1)) : W p l e R s m args below meth c s.heap [] 0 0 (MQ below (QRd E none) args s 0 0 (fun _ => False)) (F0 m pc ls []) :=
  W.vret hX.1 hX.2.1 hX.2.2.1 (fun t ht _ => ⟨rfl, ht⟩) (fun q h => by cases h) hdg hX.2.2.2.2.2.2.1
theorem rRn2 {maxL' : Nat} {v r : Int32} {ty : FieldType} (hX : CX p s m args meth c cc maxL' (some ty) own) (hz : narrow ty (.int v) = .int v) (he : v = r) (hdg : decode cc pc = .ok (.ireturn, 1)) : W p l e R s m args below meth c s.heap [] 0 0 (MQ below (QRd E (some (.int r))) args s 0 0 (fun _ => False)) (F0 m pc ls [.int v]) := by
  subst he
  exact W.zret hX.1 hX.2.1 hX.2.2.1 hz (fun t ht _ => ⟨rfl, ht⟩) (fun q h => by cases h) hdg hX.2.2.2.2.2.2.1
end KSS
