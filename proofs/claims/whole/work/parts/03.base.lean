/-! own layer over the kit: one list of words for all, contracts that say exactly what comes out, call rules -/
def TBL : List Cond := lw_tbl.filter goodWord
theorem TBL_good : GoodIn TBL TBL := fun w h => ⟨h, good_of_word (List.mem_filter.mp h).2⟩
theorem TBL_in {w : Cond} (h : w ∈ lw_tbl) (g : goodWord w = true) : w ∈ TBL := List.mem_filter.mpr ⟨h, g⟩
theorem TBL_t {w : Cond} (h : w ∈ tables_1) (g : goodWord w = true) : w ∈ TBL := TBL_in (List.mem_append_right _ h) g
theorem TBL_s {w : Cond} (h : w ∈ k2_sels lw_privs) (g : goodWord w = true) : w ∈ TBL := TBL_in (List.mem_append_left _ h) g
abbrev wE : Type := va_G × ClassId × ClassId × ClassId × ClassId
abbrev wTy (E : wE) : List (ClassId × FieldType) := [(E.2.1, .int), (E.2.2.1, .boolean), (E.2.2.2.1, .object "LevelGone$Site"), (E.2.2.2.2, .object "LevelGone$Town")]
abbrev wK (E : wE) (U : State) : Prop := va_K E.1 vwCl (wTy E) U
def NST : List (String × Nat × MethodName) := [(RX6, 17, yX3_init), (RX7, 25, yX5_init), (RX7, 32, yX1_init), (RX1, 32, yX3_init), (RX7, 39, yX3_init), (RX1, 89, yX7_has)]
/-- links to private members of nest mates -/
def wN (U : State) : Prop := (∀ q ∈ NST, va_Nw (Cond.methodLinkNest q.1 q.2.1 q.2.2 "LevelGone") U) ∧ va_AO "LevelGone$Site" U ∧ va_AO "LevelGone$Town" U
theorem wN.mv {s U : State} (hW : s.WarmedH U.vm) (h : wN s) : wN U := ⟨fun q hq => va_Nw.warmM hW (h.1 q hq), va_AO.moved hW.alike h.2.1, va_AO.moved hW.alike h.2.2⟩
def wK2 (E : wE) (U : State) : Prop := wK E U ∧ wN U
theorem wK2.rf {E : wE} {U U' : State} (q : wK2 E U) (h : U.vm = U'.vm) : wK2 E U' := ⟨va_K.moved (h ▸ Vm.Alike.refl U.vm) q.1, ⟨fun w hw => va_Nw.same rfl h (q.2.1 w hw), va_AO.moved (h ▸ Vm.Alike.refl U.vm) q.2.2.1, va_AO.moved (h ▸ Vm.Alike.refl U.vm) q.2.2.2⟩⟩
theorem wN.of {args : Array Value} {s : State} (h : ∀ w ∈ tables_1, w.before args s = true) : wN s := by
  have hs : ∀ q ∈ NST, Cond.methodLinkNest q.1 q.2.1 q.2.2 "LevelGone" ∈ tables_1 := List.forall_mem_cons.mpr ⟨(List.mem_append_left _ (List.mem_of_getElem? (i := 33) (by decide +kernel))), List.forall_mem_cons.mpr ⟨(List.mem_append_left _ (List.mem_of_getElem? (i := 112) (by decide +kernel))), List.forall_mem_cons.mpr ⟨(List.mem_append_left _ (List.mem_of_getElem? (i := 139) (by decide +kernel))), List.forall_mem_cons.mpr ⟨(List.mem_append_left _ (List.mem_of_getElem? (i := 144) (by decide +kernel))), List.forall_mem_cons.mpr ⟨(List.mem_append_left _ (List.mem_of_getElem? (i := 177) (by decide +kernel))), List.forall_mem_cons.mpr ⟨(List.mem_append_right _ (List.mem_append_right _ (List.mem_append_left _ (List.mem_of_getElem? (i := 128) (by decide +kernel))))), fun _ h => absurd h List.not_mem_nil⟩⟩⟩⟩⟩⟩
  exact ⟨fun q hq => va_Nw.of rfl (h _ (hs q hq)), va_AO.of (h _ (List.mem_append_left _ (List.mem_of_getElem? (i := 61) (by decide +kernel)))), va_AO.of (h _ (List.mem_append_left _ (List.mem_of_getElem? (i := 109) (by decide +kernel))))⟩
abbrev wP (E : wE) (ws : va_W) (H : Heap) : Prop := va_P E.1 vwCl ws H
abbrev aI (E : wE) (n : Nat) (f : Nat → Int32) : va_E := .inl (E.2.1, n, .inl f)
abbrev aZ (E : wE) (n : Nat) (f : Nat → Int32) : va_E := .inl (E.2.2.1, n, .inl f)
def wR (d : Nat) : Room := { frames := d, cells := 0, slots := 0, locals := 40 * d }
def QRd (E : wE) (rv : Option Value) : Array Value → State → Outcome → State → Prop := fun _ st oc t => oc = .returned rv ∧ t.heap = st.heap
def QWd (E : wE) (A : Nat → Prop) (rv : Option Value) (w1 : va_W) : Array Value → State → Outcome → State → Prop := fun _ st oc t => oc = .returned rv ∧ wP E w1 t.heap ∧ va_F A st t
/-- a contract of a method that changes nothing -/
def MR (l : Launch) (y : MethodName) (cc : ByteArray) (maxL : Nat) (ret : Option FieldType) (d : Nat) (E : wE) (av : List Value) (wc : va_W) (rv : Option Value) : Prop :=
  Met l y (.code y cc maxL ret :: TBL) (wR d) (va_Pc av (fun U => wP E wc U.heap ∧ wK2 E U)) (QRd E rv) 0 0 (fun _ => False)
/-- a contract of a method that changes its cells -/
def MW (l : Launch) (y : MethodName) (cc : ByteArray) (maxL : Nat) (ret : Option FieldType) (d : Nat) (E : wE) (av : List Value) (wc : va_W) (rv : Option Value) (w1 : va_W) : Prop :=
  ∀ sz : Nat, Met l y (.code y cc maxL ret :: TBL) (wR d) (va_Pc av (fun U => U.heap.size = sz ∧ wP E wc U.heap ∧ wK2 E U ∧ va_D (fun _ => True) wc)) (QWd E (va_A wc sz) rv w1) 0 0 (va_A wc sz)
/-- what stands in a method's body -/
def CX (p : Program) (s : State) (m : MethodId) (args : Array Value) (meth : Method) (c : Code) (cc : ByteArray) (maxL : Nat) (ret : Option FieldType) (own : String) : Prop :=
  p.tables.exec = Jvm.exec ∧ c.code = cc ∧ meth.sig.returnType = ret ∧ c.maxLocals = maxL ∧ (∀ w ∈ TBL, w.before args s = true) ∧ s.vm.findClass own = some m.cls ∧ meth.locks = false ∧ wN s
theorem MR.of {l : Launch} {y : MethodName} {cc : ByteArray} {maxL : Nat} {ret : Option FieldType} {d : Nat} {E : wE} {av : List Value} {wc : va_W} {rv : Option Value} (hy : plainName y.cls = true) (hlen : (lg_sl av).length ≤ maxL)
    (body : ∀ (p : Program) (e : Env) (s : State) (m : MethodId) (below : List Frame) (meth : Method) (c : Code) (ls : Array Slot), CX p s m av.toArray meth c cc maxL ret y.cls → wK E s → wP E wc s.heap → lv_has ls maxL (lv_args 0 av) →
      W p l e (wR d) s m av.toArray below meth c s.heap [] 0 0 (MQ below (QRd E rv) av.toArray s 0 0 (fun _ => False)) (F0 m 0 ls [])) : MR l y cc maxL ret d E av wc rv := by
  refine Met.ofW (cc := cc) (maxL := maxL) (ret := ret) hy rfl ?_
  intro p e s m args below meth c s₁ B hml hv
  obtain ⟨rfl, hP, ⟨hK, hN⟩⟩ := hv
  have hts := atoms_spec (ws := .code y cc maxL ret :: TBL) B.pre
  have hl := lv_entry av (n := maxL) hlen
  rw [lg_entry_eq]
  exact body p e s m below meth c _ ⟨B.exec, B.bytes, B.returns, hml, fun w hw => hts w (List.mem_cons_of_mem _ hw), findClass_of_methodNamed B.named, B.notSynchronized, hN⟩ hK hP hl
theorem MW.of {l : Launch} {y : MethodName} {cc : ByteArray} {maxL : Nat} {ret : Option FieldType} {d : Nat} {E : wE} {av : List Value} {wc : va_W} {rv : Option Value} {w1 : va_W} (hy : plainName y.cls = true) (hlen : (lg_sl av).length ≤ maxL)
    (body : ∀ (p : Program) (e : Env) (s : State) (m : MethodId) (below : List Frame) (meth : Method) (c : Code) (ls : Array Slot) (A : Nat → Prop), CX p s m av.toArray meth c cc maxL ret y.cls → wK E s → wP E wc s.heap → va_D A wc → va_S A s.heap s.heap [] → (∀ q : Nat, s.heap.size ≤ q → A q) → lv_has ls maxL (lv_args 0 av) →
      W p l e (wR d) s m av.toArray below meth c s.heap [] 0 0 (MQ below (QWd E A rv w1) av.toArray s 0 0 A) (F0 m 0 ls [])) : MW l y cc maxL ret d E av wc rv w1 := by
  intro sz
  refine Met.ofW (cc := cc) (maxL := maxL) (ret := ret) hy rfl ?_
  intro p e s m args below meth c s₁ B hml hv
  obtain ⟨rfl, hsz, hP, ⟨hK, hN⟩, hD⟩ := hv
  have hts := atoms_spec (ws := .code y cc maxL ret :: TBL) B.pre
  have hl := lv_entry av (n := maxL) hlen
  subst hsz
  rw [lg_entry_eq]
  exact body p e s m below meth c _ _ ⟨B.exec, B.bytes, B.returns, hml, fun w hw => hts w (List.mem_cons_of_mem _ hw), findClass_of_methodNamed B.named, B.notSynchronized, hN⟩ hK hP hD.self va_S.rf (fun q h => Or.inr h) hl
/-- a world with some places written anew -/
def wsSet : va_W → List Nat → va_W → va_W
  | ws, i :: is, q :: w1 => wsSet (ws.set i q) is w1
  | ws, _, _ => ws
theorem wsSet_fst : ∀ (is : List Nat) (ws w1 : va_W), is.map (fun i => (ws[i]?).map Prod.fst) = w1.map (fun q => some q.1) → ∀ k : Nat, ((wsSet ws is w1)[k]?).map Prod.fst = (ws[k]?).map Prod.fst
  | [], ws, w1, _, k => by simp [wsSet]
  | i :: is, ws, [], h, k => by simp [wsSet]
  | i :: is, ws, q :: w1, h, k => by
    simp only [List.map_cons, List.cons.injEq] at h
    have key : ∀ j : Nat, ((ws.set i q)[j]?).map Prod.fst = (ws[j]?).map Prod.fst := by
      intro j
      rw [List.getElem?_set]
      by_cases hij : i = j
      · subst hij
        cases hw : ws[i]? with
        | none => rw [hw] at h; simp at h
        | some x =>
          have hl : i < ws.length := (List.getElem?_eq_some_iff.mp hw).1
          simp only [hl, if_true]
          rw [hw] at h
          exact h.1.symm
      · simp [hij]
    have h2 : is.map (fun i_1 => ((ws.set i q)[i_1]?).map Prod.fst) = w1.map (fun q => some q.1) := by
      rw [← h.2]
      exact List.map_congr_left (fun j _ => key j)
    show ((wsSet (ws.set i q) is w1)[k]?).map Prod.fst = _
    rw [wsSet_fst is (ws.set i q) w1 h2 k, key k]
theorem wsSet_at : ∀ (is : List Nat) (ws w1 : va_W), is.length = w1.length → ∀ (k : Nat) (q : Nat × va_E), (wsSet ws is w1)[k]? = some q → q ∈ w1 ∨ (k ∉ is ∧ ws[k]? = some q)
  | [], ws, w1, _, k, q, hq => by
    simp only [wsSet] at hq
    exact Or.inr ⟨List.not_mem_nil, hq⟩
  | i :: is, ws, [], h, k, q, hq => by simp at h
  | i :: is, ws, q0 :: w1, h, k, q, hq => by
    have hl : is.length = w1.length := by simpa using h
    rcases wsSet_at is (ws.set i q0) w1 hl k q hq with h1 | ⟨h1, h2⟩
    · exact Or.inl (List.mem_cons_of_mem _ h1)
    · rw [List.getElem?_set] at h2
      by_cases hik : i = k
      · subst hik
        by_cases hlt : i < ws.length
        · simp only [hlt, if_true] at h2
          exact Or.inl (by rw [← Option.some.inj h2]; exact List.mem_cons_self)
        · simp [hlt] at h2
      · simp only [hik, if_false] at h2
        refine Or.inr ⟨fun hm => ?_, h2⟩
        rcases List.mem_cons.mp hm with e | e
        · exact hik e.symm
        · exact h1 e
theorem fr_set {A : Nat → Prop} {D : va_G} {cl : List vw_C} {ws wc w1 : va_W} {H H1 : Heap} (is : List Nat) (hP : va_P D cl ws H) (hD : va_D A ws) (hC : is.map (fun i => ws[i]?) = wc.map some) (hA1 : w1.map Prod.fst = wc.map Prod.fst)
    (hk : ∀ q : Nat, q < H.size → ¬ va_A wc H.size q → H1[q]? = H[q]?) (hP1 : va_P D cl w1 H1) : va_P D cl (wsSet ws is w1) H1 ∧ va_D A (wsSet ws is w1) := by
  have hlen : is.length = w1.length := by
    have e1 := congrArg List.length hC
    have e2 := congrArg List.length hA1
    simp only [List.length_map] at e1 e2
    omega
  have hfst : is.map (fun i => (ws[i]?).map Prod.fst) = w1.map (fun q => some q.1) := by
    have e1 := congrArg (List.map (Option.map Prod.fst)) hC
    have e2 := congrArg (List.map some) hA1
    simp only [List.map_map] at e1 e2
    exact e1.trans e2.symm
  have hF := wsSet_fst is ws w1 hfst
  have pull : ∀ (k : Nat) (q : Nat × va_E), (wsSet ws is w1)[k]? = some q → ∃ q', ws[k]? = some q' ∧ q'.1 = q.1 := by
    intro k q hq
    have := hF k
    rw [hq] at this
    cases hw : ws[k]? with
    | none => rw [hw] at this; simp at this
    | some x => rw [hw] at this; exact ⟨x, rfl, (Option.some.inj this).symm⟩
  refine ⟨fun k q hq => ?_, fun i j x y hx hy hxy => ?_, fun k q hq => ?_⟩
  · rcases wsSet_at is ws w1 hlen k q hq with h1 | ⟨h1, h2⟩
    · obtain ⟨j, hj⟩ := List.getElem?_of_mem h1
      exact hP1 j q hj
    · have hlt := (hP k q h2).lt
      refine (hP k q h2).kept (hk q.1 hlt (fun hh => ?_))
      rcases hh with ⟨j, e, hj⟩ | hh
      · have e1 : (is.map (fun i => ws[i]?))[j]? = some (some (q.1, e)) := by rw [hC, List.getElem?_map, hj]; rfl
        rw [List.getElem?_map] at e1
        cases hi : is[j]? with
        | none => rw [hi] at e1; cases e1
        | some i =>
          rw [hi] at e1
          have e2 : ws[i]? = some (q.1, e) := Option.some.inj e1
          have e3 := hD.1 i k (q.1, e) q e2 h2 rfl
          subst e3
          exact h1 (List.mem_of_getElem? hi)
      · exact absurd hlt (Nat.not_lt.mpr hh)
  · obtain ⟨x', a1, a2⟩ := pull i x hx
    obtain ⟨y', b1, b2⟩ := pull j y hy
    exact hD.1 i j x' y' a1 b1 (by rw [a2, b2, hxy])
  · obtain ⟨x', a1, a2⟩ := pull k q hq
    rw [← a2]
    exact hD.2 k x' a1
theorem fr_free {A : Nat → Prop} {ws wc : va_W} {H0 H : Heap} {locs : List Loc} (is : List Nat) (hD : va_D A ws) (hS : va_S A H0 H locs) (hA : ∀ q : Nat, H0.size ≤ q → A q) (hC : is.map (fun i => ws[i]?) = wc.map some) : ∀ q, va_A wc H.size q → A q := va_free hD hS hA is hC
theorem va_P.pick {D : va_G} {cl : List vw_C} {ws wc : va_W} {H : Heap} (hP : va_P D cl ws H) (is : List Nat) (hC : is.map (fun i => ws[i]?) = wc.map some) : va_P D cl wc H := by
  intro k q hq
  have e1 : (is.map (fun i => ws[i]?))[k]? = some (some q) := by rw [hC, List.getElem?_map, hq]; rfl
  rw [List.getElem?_map] at e1
  cases hi : is[k]? with
  | none => rw [hi] at e1; cases e1
  | some i => rw [hi] at e1; exact hP i q (Option.some.inj e1)
theorem va_D.pick {A : Nat → Prop} {ws wc : va_W} (hD : va_D A ws) (is : List Nat) (hn : va_nd is = true) (hC : is.map (fun i => ws[i]?) = wc.map some) : va_D (fun _ => True) wc := (hD.sub is hn hC).weaken (fun _ _ _ _ => trivial)
section KC
variable {p : Program} {l : Launch} {e : Env} {R : Room} {s : State} {m : MethodId} {args : Array Value} {below : List Frame} {meth : Method} {c : Code} {H : Heap} {locs : List Loc} {Q : State → Prop} {pc : Nat} {ls : Array Slot} {rest st0 : List Value} {a : Array Value}
theorem contR {E : wE} {rv : Option Value} (hr : va_Run p l e R s m args below meth c H locs 0 0 0 0 (F0 m pc ls st0) rest (QRd E rv a) (fun _ => False))
    (kk : W p l e R s m args below meth c H locs 0 0 Q (F0 m (pc + 3) ls (rv.toList ++ rest))) : W p l e R s m args below meth c H locs 0 0 Q (F0 m pc ls st0) := by
  intro T hT X
  obtain ⟨v, st₀, t, T', L, h0, X', hL, e1, e2, ⟨hv, hh⟩, st⟩ := hr T hT X
  cases hv
  obtain ⟨t2, a1, b1⟩ := kk T' (by rw [e1, hh, h0]) (by
    have hLn : L = [] := List.eq_nil_iff_forall_not_mem.mpr (fun q hq => hL q hq)
    rw [hLn, List.append_nil] at X'
    exact X')
  exact ⟨t2, st t2 a1, b1⟩
theorem contW {E : wE} {rv : Option Value} {A : Nat → Prop} {H0 : Heap} {ws wc w1 ws' : va_W} (is : List Nat) (hr : va_Run p l e R s m args below meth c H locs 0 0 0 0 (F0 m pc ls st0) rest (QWd E (va_A wc H.size) rv w1 a) (va_A wc H.size))
    (hP : wP E ws H) (hD : va_D A ws) (hS : va_S A H0 H locs) (hA : ∀ q : Nat, H0.size ≤ q → A q) (hC : is.map (fun i => ws[i]?) = wc.map some) (hA1 : w1.map Prod.fst = wc.map Prod.fst) (hw : wsSet ws is w1 = ws')
    (kk : ∀ (H1 : Heap) (locs1 : List Loc), wP E ws' H1 → va_D A ws' → va_S A H0 H1 locs1 → W p l e R s m args below meth c H1 locs1 0 0 Q (F0 m (pc + 3) ls (rv.toList ++ rest))) : W p l e R s m args below meth c H locs 0 0 Q (F0 m pc ls st0) := by
  intro T hT X
  obtain ⟨v, st₀, t, T', L, h0, X', hL, e1, e2, ⟨hv, hp, hz, hk⟩, st⟩ := hr T hT X
  cases hv
  rw [h0] at hz hk
  have hf := fr_free is hD hS hA hC
  have hp' : wP E w1 T'.heap := by rw [e1]; exact hp
  obtain ⟨g1, g2⟩ := fr_set (H1 := T'.heap) is hP hD hC hA1 (fun q h1 h2 => by rw [e1]; exact hk q h1 h2) hp'
  rw [hw] at g1 g2
  obtain ⟨t2, a1, b1⟩ := kk T'.heap (locs ++ L) g1 g2
    ⟨Nat.le_trans hS.1 (by rw [e1]; exact hz), fun q h1 h2 => by rw [e1, hk q (Nat.lt_of_lt_of_le h1 hS.1) (fun z => h2 (hf q z))]; exact hS.2.1 q h1 h2, fun q hq => by
      rcases List.mem_append.mp hq with h | h
      · exact hS.2.2 q h
      · exact hf _ (hL q h)⟩ T' rfl X'
  exact ⟨t2, st t2 a1, b1⟩
theorem blindR {E : wE} {av : List Value} {wc : va_W} : FrameBlind (va_Pc av (fun U => wP E wc U.heap ∧ wK2 E U)) := fun _ U _ _ q => ⟨q.1, q.2.1, (wK2.rf q.2.2 rfl)⟩
theorem blindW {E : wE} {av : List Value} {wc : va_W} {sz : Nat} : FrameBlind (va_Pc av (fun U => U.heap.size = sz ∧ wP E wc U.heap ∧ wK2 E U ∧ va_D (fun _ => True) wc)) := fun _ U _ _ q => ⟨q.1, q.2.1, q.2.2.1, (wK2.rf q.2.2.2.1 rfl), q.2.2.2.2⟩
def cS (y : MethodName) (cc : ByteArray) (maxL : Nat) (ret : Option FieldType) (n : Nat) : Prop := Cond.code y cc maxL ret ∈ TBL ∧ Cond.static y ∈ TBL ∧ Cond.initialized y.cls ∈ TBL ∧ (y.cls ≠ "java/lang/invoke/MethodHandle" ∧ y.cls ≠ "java/lang/invoke/VarHandle" ∧ (parseMethodDescriptor y.desc).map (fun d => d.parameters.length) = some n)
def cV (y : MethodName) (cc : ByteArray) (maxL : Nat) (ret : Option FieldType) (n : Nat) : Prop := Cond.code y cc maxL ret ∈ TBL ∧ Cond.instanceMethod y ∈ TBL ∧ Cond.selects y.cls y y ∈ TBL ∧ Cond.initialized y.cls ∈ TBL ∧ (y.cls ≠ "java/lang/invoke/MethodHandle" ∧ y.cls ≠ "java/lang/invoke/VarHandle" ∧ (parseMethodDescriptor y.desc).map (fun d => d.parameters.length) = some n)
theorem gcode {y : MethodName} {cc : ByteArray} {maxL : Nat} {ret : Option FieldType} (h : Cond.code y cc maxL ret ∈ TBL) : GoodIn TBL (Cond.code y cc maxL ret :: TBL) := by
  intro w hw
  rcases List.mem_cons.mp hw with e | e
  · rw [e]; exact TBL_good _ h
  · exact TBL_good _ e
theorem gcons {w : Cond} {ws : List Cond} (h : w ∈ TBL) (g : GoodIn TBL ws) : GoodIn TBL (w :: ws) := by
  intro w' hw
  rcases List.mem_cons.mp hw with e | e
  · rw [e]; exact TBL_good _ h
  · exact g _ e
abbrev roomOk (d maxL : Nat) (R : Room) : Prop := d + 1 ≤ R.frames ∧ 8 + (maxL + 11) + 40 * d ≤ R.locals
section
variable {y : MethodName} {cc cy : ByteArray} {maxL nL n index d : Nat} {ret ret0 : Option FieldType} {own : String} {As : List Value} {E : wE} {wc : va_W} {rv : Option Value} {b : Nat}
theorem kS0 {ws : List Cond} {rm : Room} {Pc : Array Value → State → Prop} {Qc : Array Value → State → Outcome → State → Prop} {free : Addr → Prop} (hX : CX p s m args meth c cc nL ret0 own) (hM : Met l y (.code y cy maxL ret :: TBL) (wR d) Pc Qc 0 0 free) (B : cS y cy maxL ret n) (hlink : Cond.methodLink own index y ∈ TBL) (hp : PreS s H Pc As) (hn : As.length = n) (hsz : ls.size = nL) (hst : st0 = As.reverse ++ rest) (hrm : (rest.map fun v => v.category).sum ≤ 8) (hR : roomOk d maxL R) (hdg : decode cc pc = .ok (.invokestatic index, 3)) :
    va_Run p l e R s m args below meth c H locs 0 0 0 0 (F0 m pc ls st0) rest (Qc As.toArray) free := by
  obtain ⟨hx, hb, hr, hml, hts, hown, hlocks, hN⟩ := hX
  exact va_runS (Ts := TBL) (own := own) ⟨hx, hb, hml, hown, hts⟩ hM (va_cwS (Ts := TBL) n hts (by show GoodIn TBL (_ :: _ :: _ :: _); exact gcons hlink (gcons B.2.1 (gcons B.2.2.1 (gcode B.1)))) rfl rfl rfl B.2.2.2 hR) hp rfl hn hsz hst (lv_room (rest := st0) hrm) hdg ⟨Nat.zero_le _, Nat.zero_le _⟩
theorem kV0 {Pc : Array Value → State → Prop} {Qc : Array Value → State → Outcome → State → Prop} {free : Addr → Prop} (hX : CX p s m args meth c cc nL ret0 own) (hM : Met l y (.code y cy maxL ret :: TBL) (wR d) Pc Qc 0 0 free) (B : cV y cy maxL ret n) (hlink : Cond.methodLink own index y ∈ TBL) (hp : PreV s H y.cls b Pc As) (hn : As.length = n) (hsz : ls.size = nL) (hst : st0 = As.reverse ++ .ref b :: rest) (hrm : (rest.map fun v => v.category).sum ≤ 8) (hR : roomOk d maxL R) (hdg : decode cc pc = .ok (.invokevirtual index, 3)) :
    va_Run p l e R s m args below meth c H locs 0 0 0 0 (F0 m pc ls st0) rest (Qc (Value.ref b :: As).toArray) free := by
  obtain ⟨hx, hb, hr, hml, hts, hown, hlocks, hN⟩ := hX
  exact va_runV (Ts := TBL) (own := own) ⟨hx, hb, hml, hown, hts⟩ hM (cwV (Ts := TBL) n hts (by show GoodIn TBL (_ :: _ :: _ :: _ :: _); exact gcons hlink (gcons B.2.1 (gcons B.2.2.1 (gcons B.2.2.2.1 (gcode B.1))))) rfl rfl rfl ⟨rfl, B.2.2.2.2⟩ hR) hp rfl hn hsz hst (lv_room (rest := st0) hrm) hdg ⟨Nat.zero_le _, Nat.zero_le _⟩
theorem kSN0 {host : String} {Pc : Array Value → State → Prop} {Qc : Array Value → State → Outcome → State → Prop} {free : Addr → Prop} (hX : CX p s m args meth c cc nL ret0 own) (hM : Met l y (.code y cy maxL ret :: TBL) (wR d) Pc Qc 0 0 free) (B : cS y cy maxL ret n) (hlink : va_Nw (Cond.methodLinkNest own index y host) s) (hp : PreS s H Pc As) (hn : As.length = n) (hsz : ls.size = nL) (hst : st0 = As.reverse ++ rest) (hrm : (rest.map fun v => v.category).sum ≤ 8) (hR : roomOk d maxL R) (hdg : decode cc pc = .ok (.invokestatic index, 3)) :
    va_Run p l e R s m args below meth c H locs 0 0 0 0 (F0 m pc ls st0) rest (Qc As.toArray) free := by
  obtain ⟨hx, hb, hr, hml, hts, hown, hlocks, hN⟩ := hX
  exact va_runSN (Ts := TBL) (own := own) ⟨hx, hb, hml, hown, hts⟩ hM ⟨va_cnB (Ts := TBL) n hts (gcode B.1) rfl rfl rfl hlink (hts _ B.2.2.1) B.2.2.2 hR, hts _ B.2.1, trivial⟩ hp rfl hn hsz hst (lv_room (rest := st0) hrm) hdg ⟨Nat.zero_le _, Nat.zero_le _⟩
/-- calls: static (kS), of an object (kV), nest mates' static ones (kSN); of methods that change nothing (R), that change their cells (W) -/
theorem kSR {st1 : List Value} (hX : CX p s m args meth c cc nL ret0 own) (hM : MR l y cy maxL ret d E As wc rv) (B : cS y cy maxL ret n) (hlink : Cond.methodLink own index y ∈ TBL) (hK : wK E s) (hPc : wP E wc H) (hn : As.length = n) (hsz : ls.size = nL) (hst : st0 = As.reverse ++ rest) (hrm : (rest.map fun v => v.category).sum ≤ 8) (hR : roomOk d maxL R) (hdg : decode cc pc = .ok (.invokestatic index, 3))
    (hst1 : rv.toList ++ rest = st1) (kk : W p l e R s m args below meth c H locs 0 0 Q (F0 m (pc + 3) ls st1)) : W p l e R s m args below meth c H locs 0 0 Q (F0 m pc ls st0) :=
  contR (kS0 (ws := []) (rm := R) hX hM B hlink ⟨blindR, fun U hU hW => ⟨rfl, by rw [hU]; exact hPc, ⟨va_K.moved hW.alike hK, wN.mv hW hX.2.2.2.2.2.2.2⟩⟩⟩ hn hsz hst hrm hR hdg) (by rw [hst1]; exact kk)
theorem kSNR {host : String} {st1 : List Value} (hX : CX p s m args meth c cc nL ret0 own) (hM : MR l y cy maxL ret d E As wc rv) (B : cS y cy maxL ret n) (hlink : va_Nw (Cond.methodLinkNest own index y host) s) (hK : wK E s) (hPc : wP E wc H) (hn : As.length = n) (hsz : ls.size = nL) (hst : st0 = As.reverse ++ rest) (hrm : (rest.map fun v => v.category).sum ≤ 8) (hR : roomOk d maxL R) (hdg : decode cc pc = .ok (.invokestatic index, 3))
    (hst1 : rv.toList ++ rest = st1) (kk : W p l e R s m args below meth c H locs 0 0 Q (F0 m (pc + 3) ls st1)) : W p l e R s m args below meth c H locs 0 0 Q (F0 m pc ls st0) :=
  contR (kSN0 hX hM B hlink ⟨blindR, fun U hU hW => ⟨rfl, by rw [hU]; exact hPc, ⟨va_K.moved hW.alike hK, wN.mv hW hX.2.2.2.2.2.2.2⟩⟩⟩ hn hsz hst hrm hR hdg) (by rw [hst1]; exact kk)
theorem kVR {st1 : List Value} (hX : CX p s m args meth c cc nL ret0 own) (hM : MR l y cy maxL ret d E (.ref b :: As) wc rv) (B : cV y cy maxL ret n) (hlink : Cond.methodLink own index y ∈ TBL) (hK : wK E s) (hPc : wP E wc H) {q0 ci : Nat} {q : vw_C} {fs : List Value} (hc : vwCl[ci]? = some q) (hC : q.1 = y.cls) (hq : wc[q0]? = some (b, .inr (ci, fs))) (hn : As.length = n) (hsz : ls.size = nL) (hst : st0 = As.reverse ++ .ref b :: rest) (hrm : (rest.map fun v => v.category).sum ≤ 8) (hR : roomOk d maxL R) (hdg : decode cc pc = .ok (.invokevirtual index, 3))
    (hst1 : rv.toList ++ rest = st1) (kk : W p l e R s m args below meth c H locs 0 0 Q (F0 m (pc + 3) ls st1)) : W p l e R s m args below meth c H locs 0 0 Q (F0 m pc ls st0) :=
  contR (kV0 hX hM B hlink ⟨blindR, by rw [← hC]; exact va_recv hK hPc hc hq, fun U hU hW => ⟨rfl, by rw [hU]; exact hPc, ⟨va_K.moved hW.alike hK, wN.mv hW hX.2.2.2.2.2.2.2⟩⟩⟩ hn hsz hst hrm hR hdg) (by rw [hst1]; exact kk)
theorem kSW {st1 : List Value} {A : Nat → Prop} {H0 : Heap} {ws w1 ws' : va_W} (is : List Nat) (hX : CX p s m args meth c cc nL ret0 own) (hM : MW l y cy maxL ret d E As wc rv w1) (B : cS y cy maxL ret n) (hlink : Cond.methodLink own index y ∈ TBL) (hK : wK E s) (hP : wP E ws H) (hD : va_D A ws) (hS : va_S A H0 H locs) (hA : ∀ q : Nat, H0.size ≤ q → A q) (hnd : va_nd is = true) (hC : is.map (fun i => ws[i]?) = wc.map some) (hA1 : w1.map Prod.fst = wc.map Prod.fst) (hw : wsSet ws is w1 = ws') (hn : As.length = n) (hsz : ls.size = nL) (hst : st0 = As.reverse ++ rest) (hrm : (rest.map fun v => v.category).sum ≤ 8) (hR : roomOk d maxL R) (hdg : decode cc pc = .ok (.invokestatic index, 3))
    (hst1 : rv.toList ++ rest = st1) (kk : ∀ (H1 : Heap) (locs1 : List Loc), wP E ws' H1 → va_D A ws' → va_S A H0 H1 locs1 → W p l e R s m args below meth c H1 locs1 0 0 Q (F0 m (pc + 3) ls st1)) : W p l e R s m args below meth c H locs 0 0 Q (F0 m pc ls st0) :=
  contW is (kS0 (ws := []) (rm := R) hX (hM H.size) B hlink ⟨blindW, fun U hU hW => ⟨rfl, by rw [hU], by rw [hU]; exact hP.pick is hC, ⟨va_K.moved hW.alike hK, wN.mv hW hX.2.2.2.2.2.2.2⟩, hD.pick is hnd hC⟩⟩ hn hsz hst hrm hR hdg) hP hD hS hA hC hA1 hw (by rw [hst1]; exact kk)
theorem kVW {st1 : List Value} {A : Nat → Prop} {H0 : Heap} {ws w1 ws' : va_W} (is : List Nat) (hX : CX p s m args meth c cc nL ret0 own) (hM : MW l y cy maxL ret d E (.ref b :: As) wc rv w1) (B : cV y cy maxL ret n) (hlink : Cond.methodLink own index y ∈ TBL) (hK : wK E s) (hP : wP E ws H) (hD : va_D A ws) (hS : va_S A H0 H locs) (hA : ∀ q : Nat, H0.size ≤ q → A q) (hnd : va_nd is = true) (hC : is.map (fun i => ws[i]?) = wc.map some) (hA1 : w1.map Prod.fst = wc.map Prod.fst) (hw : wsSet ws is w1 = ws') {q0 ci : Nat} {q : vw_C} {fs : List Value} (hc : vwCl[ci]? = some q) (hqC : q.1 = y.cls) (hq : ws[q0]? = some (b, .inr (ci, fs))) (hn : As.length = n) (hsz : ls.size = nL) (hst : st0 = As.reverse ++ .ref b :: rest) (hrm : (rest.map fun v => v.category).sum ≤ 8) (hR : roomOk d maxL R) (hdg : decode cc pc = .ok (.invokevirtual index, 3))
    (hst1 : rv.toList ++ rest = st1) (kk : ∀ (H1 : Heap) (locs1 : List Loc), wP E ws' H1 → va_D A ws' → va_S A H0 H1 locs1 → W p l e R s m args below meth c H1 locs1 0 0 Q (F0 m (pc + 3) ls st1)) : W p l e R s m args below meth c H locs 0 0 Q (F0 m pc ls st0) :=
  contW is (kV0 hX (hM H.size) B hlink ⟨blindW, by rw [← hqC]; exact va_recv hK hP hc hq, fun U hU hW => ⟨rfl, by rw [hU], by rw [hU]; exact hP.pick is hC, ⟨va_K.moved hW.alike hK, wN.mv hW hX.2.2.2.2.2.2.2⟩, hD.pick is hnd hC⟩⟩ hn hsz hst hrm hR hdg) hP hD hS hA hC hA1 hw (by rw [hst1]; exact kk)
end
end KC
section KRET
variable {p : Program} {l : Launch} {e : Env} {R : Room} {s : State} {m : MethodId} {args : Array Value} {below : List Frame} {meth : Method} {c : Code} {H : Heap} {locs : List Loc} {pc : Nat} {ls : Array Slot} {cc : ByteArray} {maxL : Nat} {ret : Option FieldType} {own : String} {E : wE}
theorem rRi {v r : Int32} (hX : CX p s m args meth c cc maxL (some .int) own) (he : v = r) (hdg : decode cc pc = .ok (.ireturn, 1)) : W p l e R s m args below meth c s.heap [] 0 0 (MQ below (QRd E (some (.int r))) args s 0 0 (fun _ => False)) (F0 m pc ls [.int v]) := by
  subst he
  exact W.iret hX.1 hX.2.1 hX.2.2.1 (fun t ht _ => ⟨rfl, ht⟩) (fun q h => by cases h) hdg hX.2.2.2.2.2.2.1
theorem rRz {v r : Int32} (hX : CX p s m args meth c cc maxL (some .boolean) own) (hz : narrow .boolean (.int v) = .int v) (he : v = r) (hdg : decode cc pc = .ok (.ireturn, 1)) : W p l e R s m args below meth c s.heap [] 0 0 (MQ below (QRd E (some (.int r))) args s 0 0 (fun _ => False)) (F0 m pc ls [.int v]) := by
  subst he
  exact W.zret hX.1 hX.2.1 hX.2.2.1 hz (fun t ht _ => ⟨rfl, ht⟩) (fun q h => by cases h) hdg hX.2.2.2.2.2.2.1
theorem rRl {v r : Int64} (hX : CX p s m args meth c cc maxL (some .long) own) (he : v = r) (hdg : decode cc pc = .ok (.lreturn, 1)) : W p l e R s m args below meth c s.heap [] 0 0 (MQ below (QRd E (some (.long r))) args s 0 0 (fun _ => False)) (F0 m pc ls [.long v]) := by
  subst he
  exact W.lret hX.1 hX.2.1 hX.2.2.1 (fun t ht _ => ⟨rfl, ht⟩) (fun q h => by cases h) hdg hX.2.2.2.2.2.2.1
theorem rWi {A : Nat → Prop} {w0 w1 : va_W} {v r : Int32} (hX : CX p s m args meth c cc maxL (some .int) own) (hP : wP E w0 H) (hS : va_S A s.heap H locs) (he : v = r) (hw : w0 = w1) (hdg : decode cc pc = .ok (.ireturn, 1)) : W p l e R s m args below meth c H locs 0 0 (MQ below (QWd E A (some (.int r)) w1) args s 0 0 A) (F0 m pc ls [.int v]) := by
  subst he; subst hw
  exact W.iret hX.1 hX.2.1 hX.2.2.1 (fun t ht _ => ⟨rfl, by rw [ht]; exact hP, hS.F ht⟩) hS.2.2 hdg hX.2.2.2.2.2.2.1
theorem rWz {A : Nat → Prop} {w0 w1 : va_W} {v r : Int32} (hX : CX p s m args meth c cc maxL (some .boolean) own) (hz : narrow .boolean (.int v) = .int v) (hP : wP E w0 H) (hS : va_S A s.heap H locs) (he : v = r) (hw : w0 = w1) (hdg : decode cc pc = .ok (.ireturn, 1)) : W p l e R s m args below meth c H locs 0 0 (MQ below (QWd E A (some (.int r)) w1) args s 0 0 A) (F0 m pc ls [.int v]) := by
  subst he; subst hw
  exact W.zret hX.1 hX.2.1 hX.2.2.1 hz (fun t ht _ => ⟨rfl, by rw [ht]; exact hP, hS.F ht⟩) hS.2.2 hdg hX.2.2.2.2.2.2.1
theorem rWl {A : Nat → Prop} {w0 w1 : va_W} {v r : Int64} (hX : CX p s m args meth c cc maxL (some .long) own) (hP : wP E w0 H) (hS : va_S A s.heap H locs) (he : v = r) (hw : w0 = w1) (hdg : decode cc pc = .ok (.lreturn, 1)) : W p l e R s m args below meth c H locs 0 0 (MQ below (QWd E A (some (.long r)) w1) args s 0 0 A) (F0 m pc ls [.long v]) := by
  subst he; subst hw
  exact W.lret hX.1 hX.2.1 hX.2.2.1 (fun t ht _ => ⟨rfl, by rw [ht]; exact hP, hS.F ht⟩) hS.2.2 hdg hX.2.2.2.2.2.2.1
theorem rWv {A : Nat → Prop} {w0 w1 : va_W} (hX : CX p s m args meth c cc maxL none own) (hP : wP E w0 H) (hS : va_S A s.heap H locs) (hw : w0 = w1) (hdg : decode cc pc = .ok (.return_, 1)) : W p l e R s m args below meth c H locs 0 0 (MQ below (QWd E A none w1) args s 0 0 A) (F0 m pc ls []) := by
  subst hw
  exact W.vret hX.1 hX.2.1 hX.2.2.1 (fun t ht _ => ⟨rfl, by rw [ht]; exact hP, hS.F ht⟩) hS.2.2 hdg hX.2.2.2.2.2.2.1
end KRET
/-! guards: what a program needs to go on -/
def gd {α : Type} (c : Prop) [Decidable c] (k : Option α) : Option α := if c then k else none
theorem gd_s {α : Type} {c : Prop} [Decidable c] {k : Option α} {r : α} (h : gd c k = some r) : c ∧ k = some r := by
  unfold gd at h
  by_cases hc : c
  · rw [if_pos hc] at h; exact ⟨hc, h⟩
  · rw [if_neg hc] at h; cases h
theorem gd_t {α : Type} {c : Prop} [Decidable c] {k : Option α} (h : c) : gd c k = k := if_pos h
theorem bd_s {α β : Type} {x : Option α} {f : α → Option β} {r : β} (h : x.bind f = some r) : ∃ a, x = some a ∧ f a = some r := by
  cases x with
  | none => cases h
  | some a => exact ⟨a, rfl, h⟩
theorem ip {α : Type} {c : Prop} [Decidable c] {a b r : α} (h : (if c then a else b) = r) (hc : c) : a = r := (if_pos hc).symm.trans h
theorem iq {α : Type} {c : Prop} [Decidable c] {a b r : α} (h : (if c then a else b) = r) (hc : ¬ c) : b = r := (if_neg hc).symm.trans h
theorem vp_in_of_lt {i v : Int32} {n : Nat} (hn : n < 2 ^ 31) (hv : v = Int32.ofNat n) (h0 : ¬ i < 0) (h1 : i < v) : vp_in i n := by
  obtain ⟨j, hj, rfl⟩ := nI_of h0
  subst hv
  exact vp_in_nI ((nI_ltI hj hn).mp h1) hn
def gi {α : Type} (i : Int32) (n : Nat) (k : Option α) : Option α := if i < 0 ∨ n ≤ i.toNatClampNeg then none else k
theorem gi_s {α : Type} {i : Int32} {n : Nat} {k : Option α} {r : α} (h : gi i n k = some r) : vp_in i n ∧ k = some r := by
  unfold gi at h
  by_cases hc : i < 0 ∨ n ≤ i.toNatClampNeg
  · rw [if_pos hc] at h; cases h
  · rw [if_neg hc] at h; exact ⟨hc, h⟩
theorem gi_t {α : Type} {i : Int32} {n : Nat} {k : Option α} (h : vp_in i n) : gi i n k = k := if_neg h
def lt_ {α β : Type} (x : α) (f : α → β) : β := f x
theorem ltb_s {α β : Type} {x : α} {f : α → β} {r : β} (h : lt_ x f = r) : ∃ a, x = a ∧ f a = r := ⟨x, rfl, h⟩
theorem FU_ex : ∃ n : Nat, n = 3000 := ⟨3000, rfl⟩
noncomputable def FU : Nat := Classical.choose FU_ex
theorem FU_eq : FU = 3000 := Classical.choose_spec FU_ex
theorem tin1 {w : Cond} (h : w ∈ tables_1_1) : w ∈ tables_1 := List.mem_append_left _ h
theorem tin2 {w : Cond} (h : w ∈ tables_1_2) : w ∈ tables_1 := List.mem_append_right _ (List.mem_append_left _ h)
theorem tin3 {w : Cond} (h : w ∈ tables_1_3) : w ∈ tables_1 := List.mem_append_right _ (List.mem_append_right _ (List.mem_append_left _ h))
theorem tin4 {w : Cond} (h : w ∈ tables_1_4) : w ∈ tables_1 := List.mem_append_right _ (List.mem_append_right _ (List.mem_append_right _ (List.mem_append_left _ h)))
theorem tin5 {w : Cond} (h : w ∈ tables_1_5) : w ∈ tables_1 := List.mem_append_right _ (List.mem_append_right _ (List.mem_append_right _ (List.mem_append_right _ h)))
theorem inT_of {ws : List Cond} (h : ∀ w ∈ ws, w ∈ tables_1) (g : ws.all goodWord = true) : ∀ w ∈ ws, w ∈ TBL := fun w hw => TBL_t (h w hw) (List.all_eq_true.mp g w hw)
theorem nz01 {v : Int32} (h : v = 0 ∨ v = 1) : narrow .boolean (.int v) = .int v := by rcases h with rfl | rfl <;> rfl
def j_max (x y : Int32) : Int32 := if x < y then y else x
def j_min (x y : Int32) : Int32 := if y < x then y else x
def j_abs (x : Int32) : Int32 := if 0 ≤ x then x else 0 - x
section KM
variable {p : Program} {l : Launch} {e : Env} {R : Room} {s : State} {m : MethodId} {args : Array Value} {below : List Frame} {meth : Method} {c : Code} {H : Heap} {locs : List Loc} {Q : State → Prop} {pc : Nat} {ls : Array Slot} {rest : List Value} {nL index : Nat} {cc : ByteArray} {ret0 : Option FieldType} {own : String}
theorem kMax (hX : CX p s m args meth c cc nL ret0 own) (hsz : ls.size = nL) (hlink : Cond.methodLink own index yJ9_max_7cf53 ∈ TBL) (h2 : Cond.static yJ9_max_7cf53 ∈ TBL) (h3 : Cond.initialized RJ9 ∈ TBL) (h4 : Cond.code yJ9_max_7cf53 cJ9_max_7cf53 2 (some .int) ∈ TBL) (hR : 1 ≤ R.frames ∧ (rest.map fun v => v.category).sum + 13 ≤ R.locals) {x y : Int32} (hdg : decode cc pc = .ok (.invokestatic index, 3))
    (kk : W p l e R s m args below meth c H locs 0 0 Q (F0 m (pc + 3) ls (.int (j_max x y) :: rest))) : W p l e R s m args below meth c H locs 0 0 Q (F0 m pc ls (.int y :: .int x :: rest)) :=
  va_mmax hX.1 hX.2.1 (by rw [hX.2.2.2.1, hsz]) hX.2.2.2.2.2.1 (hX.2.2.2.2.1 _ hlink) (hX.2.2.2.2.1 _ h2) (hX.2.2.2.2.1 _ h3) (hX.2.2.2.2.1 _ h4) hR.1 hR.2 (Nat.zero_le _) (Nat.zero_le _) hdg kk
theorem kMin (hX : CX p s m args meth c cc nL ret0 own) (hsz : ls.size = nL) (hlink : Cond.methodLink own index yJ9_min_7cf53 ∈ TBL) (h2 : Cond.static yJ9_min_7cf53 ∈ TBL) (h3 : Cond.initialized RJ9 ∈ TBL) (h4 : Cond.code yJ9_min_7cf53 cJ9_min_7cf53 2 (some .int) ∈ TBL) (hR : 1 ≤ R.frames ∧ (rest.map fun v => v.category).sum + 13 ≤ R.locals) {x y : Int32} (hdg : decode cc pc = .ok (.invokestatic index, 3))
    (kk : W p l e R s m args below meth c H locs 0 0 Q (F0 m (pc + 3) ls (.int (j_min x y) :: rest))) : W p l e R s m args below meth c H locs 0 0 Q (F0 m pc ls (.int y :: .int x :: rest)) :=
  va_mmin hX.1 hX.2.1 (by rw [hX.2.2.2.1, hsz]) hX.2.2.2.2.2.1 (hX.2.2.2.2.1 _ hlink) (hX.2.2.2.2.1 _ h2) (hX.2.2.2.2.1 _ h3) (hX.2.2.2.2.1 _ h4) hR.1 hR.2 (Nat.zero_le _) (Nat.zero_le _) hdg kk
theorem kAbs (hX : CX p s m args meth c cc nL ret0 own) (hsz : ls.size = nL) (hlink : Cond.methodLink own index yJ9_abs_0f7a4 ∈ TBL) (h2 : Cond.static yJ9_abs_0f7a4 ∈ TBL) (h3 : Cond.initialized RJ9 ∈ TBL) (h4 : Cond.code yJ9_abs_0f7a4 cJ9_abs_0f7a4 1 (some .int) ∈ TBL) (hR : 1 ≤ R.frames ∧ (rest.map fun v => v.category).sum + 13 ≤ R.locals) {x : Int32} (hdg : decode cc pc = .ok (.invokestatic index, 3))
    (kk : W p l e R s m args below meth c H locs 0 0 Q (F0 m (pc + 3) ls (.int (j_abs x) :: rest))) : W p l e R s m args below meth c H locs 0 0 Q (F0 m pc ls (.int x :: rest)) :=
  va_mabs hX.1 hX.2.1 (by rw [hX.2.2.2.1, hsz]) hX.2.2.2.2.2.1 (hX.2.2.2.2.1 _ hlink) (hX.2.2.2.2.1 _ h2) (hX.2.2.2.2.1 _ h3) (hX.2.2.2.2.1 _ h4) hR.1 hR.2 (Nat.zero_le _) (Nat.zero_le _) hdg kk
end KM
theorem W.pc {p : Program} {l : Launch} {e : Env} {R : Room} {s : State} {m : MethodId} {args : Array Value} {below : List Frame} {meth : Method} {c : Code} {H : Heap} {locs : List Loc} {cells slots : Nat} {Q : State → Prop} {pc : Nat} {ls : Array Slot} {st : List Value} (pc' : Nat) (h : pc = pc') (k : W p l e R s m args below meth c H locs cells slots Q (F0 m pc' ls st)) : W p l e R s m args below meth c H locs cells slots Q (F0 m pc ls st) := h ▸ k
