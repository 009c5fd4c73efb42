theorem w_1_36 : Cond.methodLink RX3 3 objectInit ∈ TBL := TBL_t (tin1 (List.mem_of_getElem? (i := 36) (by decide +kernel))) (by decide +kernel)
theorem w_1_23 : Cond.instanceMethod objectInit ∈ TBL := TBL_t (tin1 (List.mem_of_getElem? (i := 23) (by decide +kernel))) (by decide +kernel)
theorem w_1_24 : Cond.code objectInit ⟨#[0xb1]⟩ 1 none ∈ TBL := TBL_t (tin1 (List.mem_of_getElem? (i := 24) (by decide +kernel))) (by decide +kernel)
theorem w_1_60 : (Cond.arrayClass ClassFile.FieldType.int) ∈ TBL := TBL_t (tin1 (List.mem_of_getElem? (i := 60) (by decide +kernel))) (by decide +kernel)
theorem w_1_35 : Cond.code yX3_init cX3_init 1 none ∈ TBL := TBL_t (tin1 (List.mem_of_getElem? (i := 35) (by decide +kernel))) (by decide +kernel)
theorem w_1_34 : Cond.instanceMethod yX3_init ∈ TBL := TBL_t (tin1 (List.mem_of_getElem? (i := 34) (by decide +kernel))) (by decide +kernel)
theorem w_1_115 : Cond.methodLink RX5 3 objectInit ∈ TBL := TBL_t (tin1 (List.mem_of_getElem? (i := 115) (by decide +kernel))) (by decide +kernel)
theorem w_1_114 : Cond.code yX5_init cX5_init 1 none ∈ TBL := TBL_t (tin1 (List.mem_of_getElem? (i := 114) (by decide +kernel))) (by decide +kernel)
theorem w_1_113 : Cond.instanceMethod yX5_init ∈ TBL := TBL_t (tin1 (List.mem_of_getElem? (i := 113) (by decide +kernel))) (by decide +kernel)
theorem w_1_142 : Cond.methodLink RX1 3 objectInit ∈ TBL := TBL_t (tin1 (List.mem_of_getElem? (i := 142) (by decide +kernel))) (by decide +kernel)
theorem w_1_143 : Cond.classLink RX1 30 RX3 ∈ TBL := TBL_t (tin1 (List.mem_of_getElem? (i := 143) (by decide +kernel))) (by decide +kernel)
theorem w_1_32 : Cond.instantiable RX3 5 ∈ TBL := TBL_t (tin1 (List.mem_of_getElem? (i := 32) (by decide +kernel))) (by decide +kernel)
theorem w_1_144 {s : State} (h : wN s) : va_Nw (Cond.methodLinkNest RX1 32 yX3_init "LevelGone") s := h.1 (RX1, 32, yX3_init) (List.mem_of_getElem? (i := 3) rfl)
theorem w_1_141 : Cond.code yX1_init cX1_init 1 none ∈ TBL := TBL_t (tin1 (List.mem_of_getElem? (i := 141) (by decide +kernel))) (by decide +kernel)
theorem w_1_140 : Cond.instanceMethod yX1_init ∈ TBL := TBL_t (tin1 (List.mem_of_getElem? (i := 140) (by decide +kernel))) (by decide +kernel)
theorem w_1_30 : Cond.methodLink RX6 3 objectInit ∈ TBL := TBL_t (tin1 (List.mem_of_getElem? (i := 30) (by decide +kernel))) (by decide +kernel)
theorem w_1_31 : Cond.classLink RX6 15 RX3 ∈ TBL := TBL_t (tin1 (List.mem_of_getElem? (i := 31) (by decide +kernel))) (by decide +kernel)
theorem w_1_33 {s : State} (h : wN s) : va_Nw (Cond.methodLinkNest RX6 17 yX3_init "LevelGone") s := h.1 (RX6, 17, yX3_init) (List.mem_of_getElem? (i := 0) rfl)
theorem w_1_29 : Cond.code yX6_init cX6_init 2 none ∈ TBL := TBL_t (tin1 (List.mem_of_getElem? (i := 29) (by decide +kernel))) (by decide +kernel)
theorem w_1_28 : Cond.instanceMethod yX6_init ∈ TBL := TBL_t (tin1 (List.mem_of_getElem? (i := 28) (by decide +kernel))) (by decide +kernel)
theorem w_1_22 : Cond.methodLink RX7 1 objectInit ∈ TBL := TBL_t (tin1 (List.mem_of_getElem? (i := 22) (by decide +kernel))) (by decide +kernel)
theorem w_1_25 : Cond.classLink RX7 7 RX6 ∈ TBL := TBL_t (tin1 (List.mem_of_getElem? (i := 25) (by decide +kernel))) (by decide +kernel)
theorem w_1_26 : Cond.instantiable RX6 11 ∈ TBL := TBL_t (tin1 (List.mem_of_getElem? (i := 26) (by decide +kernel))) (by decide +kernel)
theorem w_1_27 : Cond.methodLink RX7 9 yX6_init ∈ TBL := TBL_t (tin1 (List.mem_of_getElem? (i := 27) (by decide +kernel))) (by decide +kernel)
theorem w_1_110 : Cond.classLink RX7 23 RX5 ∈ TBL := TBL_t (tin1 (List.mem_of_getElem? (i := 110) (by decide +kernel))) (by decide +kernel)
theorem w_1_111 : Cond.instantiable RX5 6 ∈ TBL := TBL_t (tin1 (List.mem_of_getElem? (i := 111) (by decide +kernel))) (by decide +kernel)
theorem w_1_112 {s : State} (h : wN s) : va_Nw (Cond.methodLinkNest RX7 25 yX5_init "LevelGone") s := h.1 (RX7, 25, yX5_init) (List.mem_of_getElem? (i := 1) rfl)
theorem w_1_137 : Cond.classLink RX7 30 RX1 ∈ TBL := TBL_t (tin1 (List.mem_of_getElem? (i := 137) (by decide +kernel))) (by decide +kernel)
theorem w_1_138 : Cond.instantiable RX1 9 ∈ TBL := TBL_t (tin1 (List.mem_of_getElem? (i := 138) (by decide +kernel))) (by decide +kernel)
theorem w_1_139 {s : State} (h : wN s) : va_Nw (Cond.methodLinkNest RX7 32 yX1_init "LevelGone") s := h.1 (RX7, 32, yX1_init) (List.mem_of_getElem? (i := 2) rfl)
theorem w_1_176 : Cond.classLink RX7 37 RX3 ∈ TBL := TBL_t (tin1 (List.mem_of_getElem? (i := 176) (by decide +kernel))) (by decide +kernel)
theorem w_1_177 {s : State} (h : wN s) : va_Nw (Cond.methodLinkNest RX7 39 yX3_init "LevelGone") s := h.1 (RX7, 39, yX3_init) (List.mem_of_getElem? (i := 4) rfl)
theorem w_1_21 : Cond.code yX7_init cX7_init 2 none ∈ TBL := TBL_t (tin1 (List.mem_of_getElem? (i := 21) (by decide +kernel))) (by decide +kernel)
theorem w_1_20 : Cond.instanceMethod yX7_init ∈ TBL := TBL_t (tin1 (List.mem_of_getElem? (i := 20) (by decide +kernel))) (by decide +kernel)
theorem w_4_67 : Cond.methodLink RX8 1 objectInit ∈ TBL := TBL_t (tin4 (List.mem_of_getElem? (i := 67) (by decide +kernel))) (by decide +kernel)
theorem w_4_68 : Cond.fieldLink RX8 7 "LevelGoneModel" "text" "[I" ∈ TBL := TBL_t (tin4 (List.mem_of_getElem? (i := 68) (by decide +kernel))) (by decide +kernel)
theorem w_4_70 : Cond.fieldLink RX8 13 "LevelGoneModel" "town" "[I" ∈ TBL := TBL_t (tin4 (List.mem_of_getElem? (i := 70) (by decide +kernel))) (by decide +kernel)
theorem w_4_71 : Cond.fieldLink RX8 16 "LevelGoneModel" "draft" "[I" ∈ TBL := TBL_t (tin4 (List.mem_of_getElem? (i := 71) (by decide +kernel))) (by decide +kernel)
theorem w_4_72 : Cond.fieldLink RX8 19 "LevelGoneModel" "tried" "[I" ∈ TBL := TBL_t (tin4 (List.mem_of_getElem? (i := 72) (by decide +kernel))) (by decide +kernel)
theorem w_4_73 : Cond.fieldLink RX8 22 "LevelGoneModel" "images" "[I" ∈ TBL := TBL_t (tin4 (List.mem_of_getElem? (i := 73) (by decide +kernel))) (by decide +kernel)
theorem w_4_117 : (Cond.arrayClass ClassFile.FieldType.boolean) ∈ TBL := TBL_t (tin4 (List.mem_of_getElem? (i := 117) (by decide +kernel))) (by decide +kernel)
theorem w_4_74 : Cond.fieldLink RX8 25 "LevelGoneModel" "kept" "[Z" ∈ TBL := TBL_t (tin4 (List.mem_of_getElem? (i := 74) (by decide +kernel))) (by decide +kernel)
theorem w_4_75 : Cond.fieldLink RX8 29 "LevelGoneModel" "refused" "[I" ∈ TBL := TBL_t (tin4 (List.mem_of_getElem? (i := 75) (by decide +kernel))) (by decide +kernel)
theorem w_4_77 : Cond.fieldLink RX8 32 "LevelGoneModel" "below" "J" ∈ TBL := TBL_t (tin4 (List.mem_of_getElem? (i := 77) (by decide +kernel))) (by decide +kernel)
theorem w_4_78 : Cond.fieldLink RX8 36 "LevelGoneModel" "line" "[I" ∈ TBL := TBL_t (tin4 (List.mem_of_getElem? (i := 78) (by decide +kernel))) (by decide +kernel)
theorem w_4_79 : Cond.fieldLink RX8 39 "LevelGoneModel" "best" "[I" ∈ TBL := TBL_t (tin4 (List.mem_of_getElem? (i := 79) (by decide +kernel))) (by decide +kernel)
theorem w_4_66 : Cond.code yX8_init cX8_init 1 none ∈ TBL := TBL_t (tin4 (List.mem_of_getElem? (i := 66) (by decide +kernel))) (by decide +kernel)
theorem w_4_65 : Cond.instanceMethod yX8_init ∈ TBL := TBL_t (tin4 (List.mem_of_getElem? (i := 65) (by decide +kernel))) (by decide +kernel)
theorem w_1_6 : Cond.initialized RX8 ∈ TBL := TBL_t (tin1 (List.mem_of_getElem? (i := 6) (by decide +kernel))) (by decide +kernel)
def lo (l : List (Option Nat)) : Nat → Option Nat := fun j => (l[j]?).getD none
theorem lo_up {l : List (Option Nat)} {i v : Nat} (k : Nat) (hi : i = k) (h : k < l.length) : va_up (lo l) i (some v) = lo (l.set k (some v)) := by
  subst hi
  funext j
  unfold va_up lo
  by_cases hj : j = i
  · subst hj
    simp [h]
  · rw [if_neg hj, List.getElem?_set_ne (fun e => hj e.symm)]
theorem lo_map (l : List Nat) : lo (l.map some) = lq l := by
  funext j
  unfold lo lq
  rw [List.getElem?_map]
  cases l[j]? <;> rfl
theorem lo_none (n : Nat) : (fun _ => none : Nat → Option Nat) = lo (List.replicate n none) := by
  funext j
  unfold lo
  rw [List.getElem?_replicate]
  split <;> rfl
def wRn (d mc ms : Nat) : Room := { frames := d, cells := mc, slots := ms, locals := 40 * d }
def QNd {U : Type} (E : wE) (A : Nat → Prop) (w1 : U → va_W) : Array Value → State → Outcome → State → Prop := fun _ st oc t => oc = .returned none ∧ (∃ u : U, wP E (w1 u) t.heap ∧ va_D A (w1 u)) ∧ va_F A st t
/-- a contract of a constructor: it makes mc cells of ms slots -/
def MN {U : Type} (l : Launch) (y : MethodName) (cc : ByteArray) (maxL d mc ms : Nat) (E : wE) (a : Nat) (wc : va_W) (w1 : U → va_W) : Prop :=
  ∀ sz : Nat, Met l y (.code y cc maxL none :: TBL) (wRn d mc ms) (va_Pc [.ref a] (fun U => U.heap.size = sz ∧ wP E wc U.heap ∧ wK2 E U ∧ va_D (fun _ => True) wc)) (QNd E (va_A wc sz) w1) mc ms (va_A wc sz)
theorem MN.of {U : Type} {l : Launch} {y : MethodName} {cc : ByteArray} {maxL d mc ms : Nat} {E : wE} {a : Nat} {wc : va_W} {w1 : U → va_W} (hy : plainName y.cls = true) (hyn : y.name = "<init>") (hlen : 1 ≤ maxL)
    (body : ∀ (p : Program) (e : Env) (s : State) (m : MethodId) (below : List Frame) (meth : Method) (c : Code) (ls : Array Slot) (A : Nat → Prop), CX p s m [Value.ref a].toArray meth c cc maxL none y.cls → meth.name = "<init>" → wK E s → wP E wc s.heap → va_D A wc → va_S A s.heap s.heap [] → (∀ q : Nat, s.heap.size ≤ q → A q) → lv_has ls maxL (lv_args 0 [Value.ref a]) →
      W p l e (wRn d mc ms) s m [Value.ref a].toArray below meth c s.heap [] 0 0 (MQ below (QNd E A w1) [Value.ref a].toArray s mc ms A) (F0 m 0 ls [])) : MN l y cc maxL d mc ms E a wc w1 := by
  intro sz
  refine Met.ofW (cc := cc) (maxL := maxL) (ret := none) hy rfl ?_
  intro p e s m args below meth c s₁ B hml hv
  obtain ⟨rfl, hsz, hP, ⟨hK, hN⟩, hD⟩ := hv
  have hts := atoms_spec (ws := .code y cc maxL none :: TBL) B.pre
  have hl := lv_entry [Value.ref a] (n := maxL) hlen
  have hin : meth.name = "<init>" := hyn ▸ (name_of_methodNamed B.named B.method).1
  subst hsz
  rw [lg_entry_eq]
  exact body p e s m below meth c _ _ ⟨B.exec, B.bytes, B.returns, hml, fun w hw => hts w (List.mem_cons_of_mem _ hw), findClass_of_methodNamed B.named, B.notSynchronized, hN⟩ hin hK hP hD.self va_S.rf (fun q h => Or.inr h) hl
section KNW
variable {p : Program} {l : Launch} {e : Env} {R : Room} {s : State} {m : MethodId} {args : Array Value} {below : List Frame} {meth : Method} {c : Code} {H : Heap} {locs : List Loc} {cells slots : Nat} {Q : State → Prop} {pc : Nat} {ls : Array Slot} {rest : List Value} {cc : ByteArray} {E : wE} {A : Nat → Prop} {H0 : Heap} {ws : va_W}
theorem W.csk {g : JFrame} (k n : Nat) (h1 : cells = k) (h2 : slots = n) (kk : W p l e R s m args below meth c H locs k n Q g) : W p l e R s m args below meth c H locs cells slots Q g := by
  subst h1; subst h2; exact kk
theorem kNewI (hexec : p.tables.exec = Jvm.exec) (hb : c.code = cc) (harr : (Cond.arrayClass .int).before args s = true) (hK : wK E s) (hP : wP E ws H) (hD : va_D A ws) (hS : va_S A H0 H locs) (hA : ∀ q : Nat, H0.size ≤ q → A q) {n : Int32} (N : Nat) (hn : ¬ n < 0) (hN : n.toNatClampNeg = N) (hby : N * 4 ≤ 536870912) (hc : cells + 1 ≤ R.cells) (hs : slots + N ≤ R.slots) (hdg : decode cc pc = .ok (.newarray .int, 2))
    (kk : ∀ (q : Nat) (H1 : Heap), wP E (ws ++ [(q, aI E N (fun _ => 0))]) H1 → va_D A (ws ++ [(q, aI E N (fun _ => 0))]) → va_S A H0 H1 locs → W p l e R s m args below meth c H1 locs (cells + 1) (slots + N) Q (F0 m (pc + 2) ls (.ref q :: rest))) : W p l e R s m args below meth c H locs cells slots Q (F0 m pc ls (.int n :: rest)) := by
  refine va_newa (atype := .int) hexec hb harr (ty := .int) rfl hK hP hD hS hA (a0 := (N, .inl (fun _ => 0))) (fun cA => rfl) hn hN hby hc hs hdg (fun q cA H1 hK1 hP1 hD1 hS1 => ?_)
  have e1 : s.vm.findClass ("[" ++ (FieldType.int).toString) = some cA := (hK1.2 4 (cA, .int) rfl).2
  have e2 : s.vm.findClass ("[" ++ (FieldType.int).toString) = some E.2.1 := (hK.2 0 (E.2.1, .int) rfl).2
  have e3 : cA = E.2.1 := Option.some.inj (e1.symm.trans e2)
  subst e3
  exact kk q H1 hP1 hD1 hS1
theorem kNewZ (hexec : p.tables.exec = Jvm.exec) (hb : c.code = cc) (harr : (Cond.arrayClass .boolean).before args s = true) (hK : wK E s) (hP : wP E ws H) (hD : va_D A ws) (hS : va_S A H0 H locs) (hA : ∀ q : Nat, H0.size ≤ q → A q) {n : Int32} (N : Nat) (hn : ¬ n < 0) (hN : n.toNatClampNeg = N) (hby : N * 1 ≤ 536870912) (hc : cells + 1 ≤ R.cells) (hs : slots + N ≤ R.slots) (hdg : decode cc pc = .ok (.newarray .boolean, 2))
    (kk : ∀ (q : Nat) (H1 : Heap), wP E (ws ++ [(q, aZ E N (fun _ => 0))]) H1 → va_D A (ws ++ [(q, aZ E N (fun _ => 0))]) → va_S A H0 H1 locs → W p l e R s m args below meth c H1 locs (cells + 1) (slots + N) Q (F0 m (pc + 2) ls (.ref q :: rest))) : W p l e R s m args below meth c H locs cells slots Q (F0 m pc ls (.int n :: rest)) := by
  refine va_newa (atype := .boolean) hexec hb harr (ty := .boolean) rfl hK hP hD hS hA (a0 := (N, .inl (fun _ => 0))) (fun cA => rfl) hn hN hby hc hs hdg (fun q cA H1 hK1 hP1 hD1 hS1 => ?_)
  have e1 : s.vm.findClass ("[" ++ (FieldType.boolean).toString) = some cA := (hK1.2 4 (cA, .boolean) rfl).2
  have e2 : s.vm.findClass ("[" ++ (FieldType.boolean).toString) = some E.2.2.1 := (hK.2 1 (E.2.2.1, .boolean) rfl).2
  have e3 : cA = E.2.2.1 := Option.some.inj (e1.symm.trans e2)
  subst e3
  exact kk q H1 hP1 hD1 hS1
theorem RA_inj {C : String} {c1 c2 : ClassId} (h1 : va_RA s c1 (.object C)) (h2 : va_RA s c2 (.object C)) : c1 = c2 := by
  obtain ⟨_, _, _, _, _, e1⟩ := h1
  obtain ⟨_, _, _, _, _, e2⟩ := h2
  exact Option.some.inj (e1.symm.trans e2)
theorem kNewS (hexec : p.tables.exec = Jvm.exec) (hb : c.code = cc) {own : String} {index : Nat} (hown : s.vm.findClass own = some m.cls) (hclink : (Cond.classLink own index "LevelGone$Site").before args s = true) (hover : (Cond.arrayOver (.object "LevelGone$Site")).before args s = true) (hK : wK E s) (hP : wP E ws H) (hD : va_D A ws) (hS : va_S A H0 H locs) (hA : ∀ q : Nat, H0.size ≤ q → A q) {n : Int32} (N : Nat) (hn : ¬ n < 0) (hN : n.toNatClampNeg = N) (hby : N * 4 ≤ 536870912) (hc : cells + 1 ≤ R.cells) (hs : slots + N ≤ R.slots) (hdg : decode cc pc = .ok (.anewarray index, 3))
    (kk : ∀ (q : Nat) (H1 : Heap), wP E (ws ++ [(q, aS E N (lo (List.replicate N none)))]) H1 → va_D A (ws ++ [(q, aS E N (lo (List.replicate N none)))]) → va_S A H0 H1 locs → W p l e R s m args below meth c H1 locs (cells + 1) (slots + N) Q (F0 m (pc + 3) ls (.ref q :: rest))) : W p l e R s m args below meth c H locs cells slots Q (F0 m pc ls (.int n :: rest)) := by
  refine va_newq hexec hb hown hclink (va_AO.of hover) hK hP hD hS hA hn hN hby hc hs hdg (fun q cA H1 hK1 hP1 hD1 hS1 => ?_)
  have e3 : cA = E.2.2.2.1 := RA_inj (hK1.2 4 (cA, .object "LevelGone$Site") rfl).2 (hK.2 2 (E.2.2.2.1, .object "LevelGone$Site") rfl).2
  subst e3
  rw [lo_none N] at hP1 hD1
  exact kk q H1 hP1 hD1 hS1
theorem kNewT (hexec : p.tables.exec = Jvm.exec) (hb : c.code = cc) {own : String} {index : Nat} (hown : s.vm.findClass own = some m.cls) (hclink : (Cond.classLink own index "LevelGone$Town").before args s = true) (hover : (Cond.arrayOver (.object "LevelGone$Town")).before args s = true) (hK : wK E s) (hP : wP E ws H) (hD : va_D A ws) (hS : va_S A H0 H locs) (hA : ∀ q : Nat, H0.size ≤ q → A q) {n : Int32} (N : Nat) (hn : ¬ n < 0) (hN : n.toNatClampNeg = N) (hby : N * 4 ≤ 536870912) (hc : cells + 1 ≤ R.cells) (hs : slots + N ≤ R.slots) (hdg : decode cc pc = .ok (.anewarray index, 3))
    (kk : ∀ (q : Nat) (H1 : Heap), wP E (ws ++ [(q, aT E N (lo (List.replicate N none)))]) H1 → va_D A (ws ++ [(q, aT E N (lo (List.replicate N none)))]) → va_S A H0 H1 locs → W p l e R s m args below meth c H1 locs (cells + 1) (slots + N) Q (F0 m (pc + 3) ls (.ref q :: rest))) : W p l e R s m args below meth c H locs cells slots Q (F0 m pc ls (.int n :: rest)) := by
  refine va_newq hexec hb hown hclink (va_AO.of hover) hK hP hD hS hA hn hN hby hc hs hdg (fun q cA H1 hK1 hP1 hD1 hS1 => ?_)
  have e3 : cA = E.2.2.2.2 := RA_inj (hK1.2 4 (cA, .object "LevelGone$Town") rfl).2 (hK.2 3 (E.2.2.2.2, .object "LevelGone$Town") rfl).2
  subst e3
  rw [lo_none N] at hP1 hD1
  exact kk q H1 hP1 hD1 hS1
def cI (y : MethodName) (cc : ByteArray) (maxL : Nat) : Prop := Cond.code y cc maxL none ∈ TBL ∧ Cond.instanceMethod y ∈ TBL ∧ Cond.initialized y.cls ∈ TBL ∧ y.name = "<init>" ∧ (y.cls ≠ "java/lang/invoke/MethodHandle" ∧ y.cls ≠ "java/lang/invoke/VarHandle" ∧ (parseMethodDescriptor y.desc).map (fun d => d.parameters.length) = some 0)
variable {y : MethodName} {cy : ByteArray} {maxL nL index d mc ms b : Nat} {ret0 : Option FieldType} {own : String} {wc wr : va_W} {st0 : List Value}
theorem contN {U : Type} {w1 : U → va_W} {a : Array Value} (isC isR : List Nat) (hr : va_Run p l e R s m args below meth c H locs cells slots mc ms (F0 m pc ls st0) rest (QNd E (va_A wc H.size) w1 a) (va_A wc H.size))
    (hP : wP E ws H) (hD : va_D A ws) (hS : va_S A H0 H locs) (hA : ∀ q : Nat, H0.size ≤ q → A q) (hC : isC.map (fun i => ws[i]?) = wc.map some) (hR : isR.map (fun i => ws[i]?) = wr.map some) (hn : va_nd isR = true) (hdis : ∀ i ∈ isR, i ∉ isC)
    (kk : ∀ (u : U) (H1 : Heap) (locs1 : List Loc), wP E (wr ++ w1 u) H1 → va_D A (wr ++ w1 u) → va_S A H0 H1 locs1 → W p l e R s m args below meth c H1 locs1 (cells + mc) (slots + ms) Q (F0 m (pc + 3) ls rest)) : W p l e R s m args below meth c H locs cells slots Q (F0 m pc ls st0) := by
  intro T hT X
  obtain ⟨v, st₀, t, T', L, h0, X', hL, e1, e2, ⟨hv, ⟨u, hp, hd⟩, hz, hk⟩, st⟩ := hr T hT X
  cases hv
  rw [h0] at hz hk
  have hf := fr_free isC hD hS hA hC
  have hp' : wP E (w1 u) T'.heap := by rw [e1]; exact hp
  obtain ⟨g1, g2⟩ := va_join (H1 := T'.heap) hP hD isC isR hC hR hn hdis (fun q h1 h2 => by rw [e1]; exact hk q h1 h2) hf hp' hd
  obtain ⟨t2, a1, b1⟩ := kk u T'.heap (locs ++ L) g1 g2
    ⟨Nat.le_trans hS.1 (by rw [e1]; exact hz), fun q h1 h2 => by rw [e1, hk q (Nat.lt_of_lt_of_le h1 hS.1) (fun z => h2 (hf q z))]; exact hS.2.1 q h1 h2, fun q hq => by
      rcases List.mem_append.mp hq with h | h
      · exact hS.2.2 q h
      · exact hf _ (hL q h)⟩ T' rfl X'
  exact ⟨t2, st t2 a1, b1⟩
theorem kInit {U : Type} {w1 : U → va_W} (isC isR : List Nat) (hX : CX p s m args meth c cc nL ret0 own) (hM : MN l y cy maxL d mc ms E b wc w1) (B : cI y cy maxL) (hlink : Cond.methodLink own index y ∈ TBL) (hK : wK E s) (hP : wP E ws H) (hD : va_D A ws) (hS : va_S A H0 H locs) (hA : ∀ q : Nat, H0.size ≤ q → A q) (hndC : va_nd isC = true) (hC : isC.map (fun i => ws[i]?) = wc.map some) (hR : isR.map (fun i => ws[i]?) = wr.map some) (hn : va_nd isR = true) (hdis : ∀ i ∈ isR, i ∉ isC) (hsz : ls.size = nL) (hrm : (rest.map fun v => v.category).sum ≤ 8) (hro : roomOk d maxL R) (hcs : cells + mc ≤ R.cells ∧ slots + ms ≤ R.slots) (hdg : decode cc pc = .ok (.invokespecial index, 3))
    (kk : ∀ (u : U) (H1 : Heap) (locs1 : List Loc), wP E (wr ++ w1 u) H1 → va_D A (wr ++ w1 u) → va_S A H0 H1 locs1 → W p l e R s m args below meth c H1 locs1 (cells + mc) (slots + ms) Q (F0 m (pc + 3) ls rest)) : W p l e R s m args below meth c H locs cells slots Q (F0 m pc ls (.ref b :: rest)) := by
  obtain ⟨hx, hb, hr, hml, hts, hown, hlocks, hN⟩ := hX
  refine contN isC isR (va_runI (As := []) (Ts := TBL) (own := own) ⟨hx, hb, hml, hown, hts⟩ (hM H.size) ⟨callB_of 0 hts (gcode B.1) rfl rfl rfl (hts _ B.2.2.1) (hts _ hlink) B.2.2.2.2 hro, B.2.2.2.1, hts _ B.2.1⟩ ⟨blindW, fun U hU hW => ⟨rfl, by rw [hU], by rw [hU]; exact hP.pick isC hC, ⟨va_K.moved hW.alike hK, wN.mv hW hN⟩, hD.pick isC hndC hC⟩⟩ rfl rfl hsz rfl (lv_room (rest := Value.ref b :: rest) hrm) hdg hcs) hP hD hS hA hC hR hn hdis kk
theorem kInitN {U : Type} {host : String} {w1 : U → va_W} (isC isR : List Nat) (hX : CX p s m args meth c cc nL ret0 own) (hM : MN l y cy maxL d mc ms E b wc w1) (B : cI y cy maxL) (hlink : va_Nw (Cond.methodLinkNest own index y host) s) (hK : wK E s) (hP : wP E ws H) (hD : va_D A ws) (hS : va_S A H0 H locs) (hA : ∀ q : Nat, H0.size ≤ q → A q) (hndC : va_nd isC = true) (hC : isC.map (fun i => ws[i]?) = wc.map some) (hR : isR.map (fun i => ws[i]?) = wr.map some) (hn : va_nd isR = true) (hdis : ∀ i ∈ isR, i ∉ isC) (hsz : ls.size = nL) (hrm : (rest.map fun v => v.category).sum ≤ 8) (hro : roomOk d maxL R) (hcs : cells + mc ≤ R.cells ∧ slots + ms ≤ R.slots) (hdg : decode cc pc = .ok (.invokespecial index, 3))
    (kk : ∀ (u : U) (H1 : Heap) (locs1 : List Loc), wP E (wr ++ w1 u) H1 → va_D A (wr ++ w1 u) → va_S A H0 H1 locs1 → W p l e R s m args below meth c H1 locs1 (cells + mc) (slots + ms) Q (F0 m (pc + 3) ls rest)) : W p l e R s m args below meth c H locs cells slots Q (F0 m pc ls (.ref b :: rest)) := by
  obtain ⟨hx, hb, hr, hml, hts, hown, hlocks, hN⟩ := hX
  refine contN isC isR (va_runIN (As := []) (Ts := TBL) (own := own) ⟨hx, hb, hml, hown, hts⟩ (hM H.size) ⟨va_cnB (Ts := TBL) 0 hts (gcode B.1) rfl rfl rfl hlink (hts _ B.2.2.1) B.2.2.2.2 hro, B.2.2.2.1, hts _ B.2.1⟩ ⟨blindW, fun U hU hW => ⟨rfl, by rw [hU], by rw [hU]; exact hP.pick isC hC, ⟨va_K.moved hW.alike hK, wN.mv hW hN⟩, hD.pick isC hndC hC⟩⟩ rfl rfl hsz rfl (lv_room (rest := Value.ref b :: rest) hrm) hdg hcs) hP hD hS hA hC hR hn hdis kk
theorem rNv {U : Type} {w0 : va_W} {w1 : U → va_W} (u : U) {maxL' : Nat} (hX : CX p s m args meth c cc maxL' none own) (hP : wP E w0 H) (hD : va_D A w0) (hS : va_S A s.heap H locs) (hw : w0 = w1 u) (h1 : cells = mc) (h2 : slots = ms) (hdg : decode cc pc = .ok (.return_, 1)) : W p l e R s m args below meth c H locs cells slots (MQ below (QNd E A w1) args s mc ms A) (F0 m pc ls []) := by
  subst hw; subst h1; subst h2
  exact W.vret hX.1 hX.2.1 hX.2.2.1 (fun t ht hW => ⟨rfl, ⟨u, by rw [ht]; exact hP, hD⟩, hS.F ht⟩) hS.2.2 hdg hX.2.2.2.2.2.2.1
end KNW
theorem va_D.right_ {A : Nat → Prop} {wa wb : va_W} (hD : va_D A (wa ++ wb)) : va_D A wb := by
  have key : ∀ (k : Nat) (q : Nat × va_E), wb[k]? = some q → (wa ++ wb)[wa.length + k]? = some q := fun k q hq => by rw [List.getElem?_append_right (Nat.le_add_right _ _), Nat.add_sub_cancel_left]; exact hq
  exact ⟨fun i j x y hx hy hxy => by have := hD.1 _ _ x y (key i x hx) (key j y hy) hxy; omega, fun k q hq => hD.2 _ q (key k q hq)⟩
theorem va_D.left_ {A : Nat → Prop} {wa wb : va_W} (hD : va_D A (wa ++ wb)) : va_D A wa := by
  have key : ∀ (k : Nat) (q : Nat × va_E), wa[k]? = some q → (wa ++ wb)[k]? = some q := fun k q hq => by rw [List.getElem?_append_left (List.getElem?_eq_some_iff.mp hq).1]; exact hq
  exact ⟨fun i j x y hx hy hxy => hD.1 i j x y (key i x hx) (key j y hy) hxy, fun k q hq => hD.2 k q (key k q hq)⟩
theorem va_D.cross_ {A : Nat → Prop} {wa wb : va_W} (hD : va_D A (wa ++ wb)) {i j : Nat} {x y : Nat × va_E} (hx : wa[i]? = some x) (hy : wb[j]? = some y) : x.1 ≠ y.1 := by
  intro e
  have hl := (List.getElem?_eq_some_iff.mp hx).1
  have h1 : (wa ++ wb)[i]? = some x := by rw [List.getElem?_append_left hl]; exact hx
  have h2 : (wa ++ wb)[wa.length + j]? = some y := by rw [List.getElem?_append_right (Nat.le_add_right _ _), Nat.add_sub_cancel_left]; exact hy
  have := hD.1 _ _ x y h1 h2 e
  omega
section KIR
variable {p : Program} {l : Launch} {e : Env} {R : Room} {s : State} {m : MethodId} {args : Array Value} {below : List Frame} {meth : Method} {c : Code} {H : Heap} {locs : List Loc} {cells slots : Nat} {Q : State → Prop} {pc : Nat} {ls : Array Slot} {rest : List Value} {cc : ByteArray} {E : wE} {A : Nat → Prop} {H0 : Heap} {wa wc : va_W}
variable {y : MethodName} {cy : ByteArray} {maxL nL index d mc ms b : Nat} {ret0 : Option FieldType} {own : String}
/-- a constructor's call beside a world -/
theorem kInitR {U : Type} {w1 : U → va_W} (hX : CX p s m args meth c cc nL ret0 own) (hM : MN l y cy maxL d mc ms E b wc w1) (B : cI y cy maxL) (hlink : Cond.methodLink own index y ∈ TBL) (hK : wK E s) (hPa : wP E wa H) (hPb : wP E wc H) (hD : va_D A (wa ++ wc)) (hS : va_S A H0 H locs) (hA : ∀ q : Nat, H0.size ≤ q → A q) (hsz : ls.size = nL) (hrm : (rest.map fun v => v.category).sum ≤ 8) (hro : roomOk d maxL R) (hcs : cells + mc ≤ R.cells ∧ slots + ms ≤ R.slots) (hdg : decode cc pc = .ok (.invokespecial index, 3))
    (kk : ∀ (u : U) (H1 : Heap) (locs1 : List Loc), wP E wa H1 → wP E (w1 u) H1 → va_D A (wa ++ w1 u) → va_S A H0 H1 locs1 → W p l e R s m args below meth c H1 locs1 (cells + mc) (slots + ms) Q (F0 m (pc + 3) ls rest)) : W p l e R s m args below meth c H locs cells slots Q (F0 m pc ls (.ref b :: rest)) := by
  obtain ⟨hx, hb, hr, hml, hts, hown, hlocks, hN⟩ := hX
  have hrun := va_runI (l := l) (e := e) (R := R) (below := below) (meth := meth) (H := H) (locs := locs) (cells := cells) (slots := slots) (g := F0 m pc ls (.ref b :: rest)) (As := []) (Ts := TBL) (own := own) ⟨hx, hb, hml, hown, hts⟩ (hM H.size) ⟨callB_of 0 hts (gcode B.1) rfl rfl rfl (hts _ B.2.2.1) (hts _ hlink) B.2.2.2.2 hro, B.2.2.2.1, hts _ B.2.1⟩ ⟨blindW, fun U hU hW => ⟨rfl, by rw [hU], by rw [hU]; exact hPb, ⟨va_K.moved hW.alike hK, wN.mv hW hN⟩, hD.right_.weaken (fun _ _ _ _ => trivial)⟩⟩ rfl rfl hsz rfl (lv_room (rest := Value.ref b :: rest) hrm) hdg hcs
  intro T hT X
  obtain ⟨v, st₀, t, T', L, h0, X', hL, e1, e2, ⟨hv, ⟨u, hp, hd⟩, hz, hk⟩, st⟩ := hrun T hT X
  cases hv
  rw [h0] at hz hk
  have hf : ∀ q, va_A wc H.size q → A q := by
    intro q h
    rcases h with ⟨k, e, h⟩ | h
    · exact hD.right_.2 k (q, e) h
    · exact hA q (Nat.le_trans hS.1 h)
  have hout : ∀ (k : Nat) (q : Nat × va_E), wa[k]? = some q → q.1 < H.size ∧ ¬ va_A wc H.size q.1 := by
    intro k q hq
    have hl := (hPa k q hq).lt
    refine ⟨hl, fun h => ?_⟩
    rcases h with ⟨k2, e, h⟩ | h
    · exact hD.cross_ hq h rfl
    · omega
  have ha1 : wP E wa T'.heap := fun k q hq => (hPa k q hq).kept (by rw [e1]; exact hk q.1 (hout k q hq).1 (hout k q hq).2)
  obtain ⟨t2, a1, b1⟩ := kk u T'.heap (locs ++ L) ha1 (by rw [e1]; exact hp) (hD.left_.app (hd.weaken (fun k q _ h => hf q.1 h)) (fun i j x y hx hy hxy => (hout i x hx).2 (by rw [hxy]; exact hd.2 j y hy)))
    ⟨Nat.le_trans hS.1 (by rw [e1]; exact hz), fun q h1 h2 => by rw [e1, hk q (Nat.lt_of_lt_of_le h1 hS.1) (fun z => h2 (hf q z))]; exact hS.2.1 q h1 h2, fun q hq => by
      rcases List.mem_append.mp hq with h | h
      · exact hS.2.2 q h
      · exact hf _ (hL q h)⟩ T' rfl X'
  exact ⟨t2, st t2 a1, b1⟩
end KIR
