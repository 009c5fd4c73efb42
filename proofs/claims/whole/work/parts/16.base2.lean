abbrev aS (E : wE) (n : Nat) (f : Nat → Option Nat) : va_E := .inl (E.2.2.2.1, n, .inr (.inr (.inr (.inr f))))
abbrev aT (E : wE) (n : Nat) (f : Nat → Option Nat) : va_E := .inl (E.2.2.2.2, n, .inr (.inr (.inr (.inr f))))
def lq (l : List Nat) : Nat → Option Nat := fun j => l[j]?
theorem lq_up {l : List Nat} {i v : Nat} (k : Nat) (hi : i = k) (h : k < l.length) : va_up (lq l) i (some v) = lq (l.set k v) := by
  subst hi
  funext j
  unfold va_up lq
  by_cases hj : j = i
  · subst hj
    simp [h]
  · rw [if_neg hj, List.getElem?_set_ne (fun e => hj e.symm)]
def rot {α : Type} (f : Nat → α) : Nat → α := fun j => f ((j + 1) % 8)
theorem arrV_congr {cI : ClassId} {n : Nat} {F G : Nat → Value} (h : ∀ j, j < n → F j = G j) : arrV cI n F = arrV cI n G := by
  unfold arrV
  congr 2
  funext j
  exact h j.val j.isLt
theorem at_congr {E : wE} {n a : Nat} {f g : Nat → Int32} {H : Heap} (h : ∀ j, j < n → f j = g j) (hh : va_at E.1 vwCl (a, aI E n f) H) : va_at E.1 vwCl (a, aI E n g) H := by
  have e : vp_cell E.2.1 (n, .inl f) = vp_cell E.2.1 (n, .inl g) := by
    rw [vp_cell_i, vp_cell_i]
    exact arrV_congr (fun j hj => by rw [h j hj])
  show H[a]? = some (vp_cell E.2.1 (n, .inl g))
  rw [← e]
  exact hh
theorem P_congr {E : wE} {n a q : Nat} {f g : Nat → Int32} {ws : va_W} {H : Heap} (h : ∀ j, j < n → f j = g j) (hh : wP E (ws.set q (a, aI E n f)) H) : wP E (ws.set q (a, aI E n g)) H := by
  intro k x hx
  rw [List.getElem?_set] at hx
  by_cases hk : q = k
  · subst hk
    by_cases hl : q < ws.length
    · simp only [hl, if_true] at hx
      cases hx
      have := hh q (a, aI E n f) (by rw [List.getElem?_set]; simp [hl])
      exact at_congr h this
    · simp [hl] at hx
  · simp only [hk, if_false] at hx
    exact hh k x (by rw [List.getElem?_set]; simp [hk, hx])
section KCP
variable {p : Program} {l : Launch} {e : Env} {R : Room} {s : State} {m : MethodId} {args : Array Value} {below : List Frame} {meth : Method} {c : Code} {H : Heap} {locs : List Loc} {Q : State → Prop} {pc : Nat} {ls : Array Slot} {rest : List Value} {nL index : Nat} {cc : ByteArray} {ret0 : Option FieldType} {own : String} {E : wE}
theorem kCopy {A : Nat → Prop} {H0 : Heap} {ws : va_W} {a0 a n : Nat} {f g : Nat → Int32} (hX : CX p s m args meth c cc nL ret0 own) (hsz : ls.size = nL) (hlink : Cond.methodLink own index arraycopyName ∈ TBL) (hnat : Cond.native arraycopyName ∈ TBL) (hstat : Cond.static arraycopyName ∈ TBL) (hini : Cond.initialized "java/lang/System" ∈ TBL) (hK : wK E s) (hP : wP E ws H) (hD : va_D A ws) (hS : va_S A H0 H locs) (q0 q1 : Nat) (hn : n < 2 ^ 31) (ha0 : ws[q0]? = some (a0, aI E n f)) (ha1 : ws[q1]? = some (a, aI E n g)) (hR : 1 ≤ R.frames ∧ (rest.map fun v => v.category).sum + (nativeFrameWords "java/lang/System" "arraycopy" 5 + 11) ≤ R.locals) (hdg : decode cc pc = .ok (.invokestatic index, 3))
    (kk : ∀ (H1 : Heap) (locs1 : List Loc), wP E (ws.set q1 (a, aI E n f)) H1 → va_D A (ws.set q1 (a, aI E n f)) → va_S A H0 H1 locs1 → W p l e R s m args below meth c H1 locs1 0 0 Q (F0 m (pc + 3) ls rest)) : W p l e R s m args below meth c H locs 0 0 Q (F0 m pc ls (.int (j_min (Int32.ofNat n) (Int32.ofNat n)) :: .int 0 :: .ref a :: .int 0 :: .ref a0 :: rest)) := by
  have em : j_min (Int32.ofNat n) (Int32.ofNat n) = nI n := by unfold j_min nI; split <;> rfl
  rw [em]
  have ec : (nI n).toNatClampNeg = n := nI_clamp hn
  have e0 : (0 : Int32).toNatClampNeg = 0 := by decide
  refine va_copyi hX.1 hX.2.1 (by rw [hX.2.2.2.1, hsz]) hX.2.2.2.2.2.1 (hX.2.2.2.2.1 _ hlink) (hX.2.2.2.2.1 _ hnat) (hX.2.2.2.2.1 _ hstat) (hX.2.2.2.2.1 _ hini) hK hP hD hS q0 q1 0 0 ha0 ha1 rfl rfl rfl (by decide) (by decide) (nI_pos hn) (by rw [e0, ec]; omega) (by rw [e0, ec]; omega) (fun _ _ => rfl) hR.1 hR.2 hdg (fun H1 locs1 hP1 hD1 hS1 => ?_)
  refine kk H1 locs1 (P_congr (fun j hj => ?_) hP1) (hD.set ha1) hS1
  rw [e0, ec]
  unfold va_cpy
  rw [if_pos ⟨Nat.zero_le _, by omega⟩]
  simp
end KCP
section KRR
variable {p : Program} {l : Launch} {e : Env} {R : Room} {s : State} {m : MethodId} {args : Array Value} {below : List Frame} {meth : Method} {c : Code} {pc : Nat} {ls : Array Slot} {cc : ByteArray} {maxL : Nat} {n0 : String} {own : String} {E : wE}
theorem rRr {v : Nat} (hX : CX p s m args meth c cc maxL (some (.object n0)) own) (hdg : decode cc pc = .ok (.areturn, 1)) : W p l e R s m args below meth c s.heap [] 0 0 (MQ below (QRd E (some (.ref v))) args s 0 0 (fun _ => False)) (F0 m pc ls [.ref v]) :=
  W.aret hX.1 hX.2.1 hX.2.2.1 (Or.inl ⟨_, rfl⟩) (Or.inr ⟨_, rfl⟩) (fun t ht _ => ⟨rfl, ht⟩) (fun q h => by cases h) hdg hX.2.2.2.2.2.2.1
theorem rRn (hX : CX p s m args meth c cc maxL (some (.object n0)) own) (hdg : decode cc pc = .ok (.areturn, 1)) : W p l e R s m args below meth c s.heap [] 0 0 (MQ below (QRd E (some .null)) args s 0 0 (fun _ => False)) (F0 m pc ls [.null]) :=
  W.aret hX.1 hX.2.1 hX.2.2.1 (Or.inl ⟨_, rfl⟩) (Or.inl rfl) (fun t ht _ => ⟨rfl, ht⟩) (fun q h => by cases h) hdg hX.2.2.2.2.2.2.1
end KRR
abbrev pastW (E : wE) (aP : Nat) (A H K T : Nat → Nat) (O Y : Nat → Int32) (h k t : Nat → Nat → Int32) : va_W := [(aP, aS E 8 (lq [A 0, A 1, A 2, A 3, A 4, A 5, A 6, A 7])), (A 0, .inr (1, [.int (O 0), .int (Y 0), .ref (H 0), .ref (K 0), .ref (T 0)])), (H 0, aI E 6 (h 0)), (K 0, aI E 30 (k 0)), (T 0, aI E 30 (t 0)), (A 1, .inr (1, [.int (O 1), .int (Y 1), .ref (H 1), .ref (K 1), .ref (T 1)])), (H 1, aI E 6 (h 1)), (K 1, aI E 30 (k 1)), (T 1, aI E 30 (t 1)), (A 2, .inr (1, [.int (O 2), .int (Y 2), .ref (H 2), .ref (K 2), .ref (T 2)])), (H 2, aI E 6 (h 2)), (K 2, aI E 30 (k 2)), (T 2, aI E 30 (t 2)), (A 3, .inr (1, [.int (O 3), .int (Y 3), .ref (H 3), .ref (K 3), .ref (T 3)])), (H 3, aI E 6 (h 3)), (K 3, aI E 30 (k 3)), (T 3, aI E 30 (t 3)), (A 4, .inr (1, [.int (O 4), .int (Y 4), .ref (H 4), .ref (K 4), .ref (T 4)])), (H 4, aI E 6 (h 4)), (K 4, aI E 30 (k 4)), (T 4, aI E 30 (t 4)), (A 5, .inr (1, [.int (O 5), .int (Y 5), .ref (H 5), .ref (K 5), .ref (T 5)])), (H 5, aI E 6 (h 5)), (K 5, aI E 30 (k 5)), (T 5, aI E 30 (t 5)), (A 6, .inr (1, [.int (O 6), .int (Y 6), .ref (H 6), .ref (K 6), .ref (T 6)])), (H 6, aI E 6 (h 6)), (K 6, aI E 30 (k 6)), (T 6, aI E 30 (t 6)), (A 7, .inr (1, [.int (O 7), .int (Y 7), .ref (H 7), .ref (K 7), .ref (T 7)])), (H 7, aI E 6 (h 7)), (K 7, aI E 30 (k 7)), (T 7, aI E 30 (t 7))]
section KWA
variable {p : Program} {l : Launch} {e : Env} {R : Room} {s : State} {m : MethodId} {args : Array Value} {below : List Frame} {meth : Method} {c : Code} {H : Heap} {locs : List Loc} {Q : State → Prop} {pc : Nat} {ls : Array Slot} {rest st0 : List Value} {a : Array Value}
variable {y : MethodName} {cc cy : ByteArray} {maxL nL n index d : Nat} {ret ret0 : Option FieldType} {own : String} {As : List Value} {E : wE} {rv : Option Value} {b : Nat}
theorem va_D.sameFst {A : Nat → Prop} {ws ws' : va_W} (hD : va_D A ws) (h : ws'.map Prod.fst = ws.map Prod.fst) : va_D A ws' := by
  have pull : ∀ (k : Nat) (q : Nat × va_E), ws'[k]? = some q → ∃ q', ws[k]? = some q' ∧ q'.1 = q.1 := by
    intro k q hq
    have e := congrArg (fun l => l[k]?) h
    simp only [List.getElem?_map, hq] at e
    cases hw : ws[k]? with
    | none => rw [hw] at e; simp at e
    | some x => rw [hw] at e; exact ⟨x, rfl, (Option.some.inj e).symm⟩
  refine ⟨fun i j x y hx hy hxy => ?_, fun k q hq => ?_⟩
  · obtain ⟨x', a1, a2⟩ := pull i x hx
    obtain ⟨y', b1, b2⟩ := pull j y hy
    exact hD.1 i j x' y' a1 b1 (by rw [a2, b2, hxy])
  · obtain ⟨x', a1, a2⟩ := pull k q hq
    rw [← a2]; exact hD.2 k x' a1
theorem kVWa {A : Nat → Prop} {H0 : Heap} {ws w1 : va_W} {st1 : List Value} (hX : CX p s m args meth c cc nL ret0 own) (hM : MW l y cy maxL ret d E (.ref b :: As) ws rv w1) (B : cV y cy maxL ret n) (hlink : Cond.methodLink own index y ∈ TBL) (hK : wK E s) (hP : wP E ws H) (hD : va_D A ws) (hS : va_S A H0 H locs) (hA : ∀ q : Nat, H0.size ≤ q → A q) (hA1 : w1.map Prod.fst = ws.map Prod.fst) {q0 ci : Nat} {q : vw_C} {fs : List Value} (hc : vwCl[ci]? = some q) (hqC : q.1 = y.cls) (hq : ws[q0]? = some (b, .inr (ci, fs))) (hn : As.length = n) (hsz : ls.size = nL) (hst : st0 = As.reverse ++ .ref b :: rest) (hrm : (rest.map fun v => v.category).sum ≤ 8) (hR : roomOk d maxL R) (hdg : decode cc pc = .ok (.invokevirtual index, 3))
    (hst1 : rv.toList ++ rest = st1) (kk : ∀ (H1 : Heap) (locs1 : List Loc), wP E w1 H1 → va_D A w1 → va_S A H0 H1 locs1 → W p l e R s m args below meth c H1 locs1 0 0 Q (F0 m (pc + 3) ls st1)) : W p l e R s m args below meth c H locs 0 0 Q (F0 m pc ls st0) := by
  have hr := kV0 (l := l) (e := e) (R := R) (below := below) (locs := locs) hX (hM H.size) B hlink ⟨blindW, by rw [← hqC]; exact va_recv hK hP hc hq, fun U hU hW => ⟨rfl, by rw [hU], by rw [hU]; exact hP, ⟨va_K.moved hW.alike hK, wN.mv hW hX.2.2.2.2.2.2.2⟩, hD.weaken (fun _ _ _ _ => trivial)⟩⟩ hn hsz hst hrm hR hdg
  have hf : ∀ q, va_A ws H.size q → A q := by
    intro q h
    rcases h with ⟨k, e, h⟩ | h
    · exact hD.2 k (q, e) h
    · exact hA q (Nat.le_trans hS.1 h)
  intro T hT X
  obtain ⟨v, st₀, t, T', L, h0, X', hL, e1, e2, ⟨hv, hp, hz, hk⟩, st⟩ := hr T hT X
  cases hv
  rw [h0] at hz hk
  rw [hst1] at st
  obtain ⟨t2, a1, b1⟩ := kk T'.heap (locs ++ L) (by rw [e1]; exact hp) (hD.sameFst hA1)
    ⟨Nat.le_trans hS.1 (by rw [e1]; exact hz), fun q h1 h2 => by rw [e1, hk q (Nat.lt_of_lt_of_le h1 hS.1) (fun z => h2 (hf q z))]; exact hS.2.1 q h1 h2, fun q hq => by
      rcases List.mem_append.mp hq with h | h
      · exact hS.2.2 q h
      · exact hf _ (hL q h)⟩ T' rfl X'
  exact ⟨t2, st t2 a1, b1⟩
end KWA
/-! contracts behind which addresses may have changed places -/
def QPd (E : wE) (A : Nat → Prop) (rv : Option Value) (w1 : va_W) : Array Value → State → Outcome → State → Prop := fun _ st oc t => oc = .returned rv ∧ wP E w1 t.heap ∧ va_D A w1 ∧ va_F A st t
def MWp (l : Launch) (y : MethodName) (cc : ByteArray) (maxL : Nat) (ret : Option FieldType) (d : Nat) (E : wE) (av : List Value) (wc : va_W) (rv : Option Value) (w1 : va_W) : Prop :=
  ∀ sz : Nat, Met l y (.code y cc maxL ret :: TBL) (wR d) (va_Pc av (fun U => U.heap.size = sz ∧ wP E wc U.heap ∧ wK2 E U ∧ va_D (fun _ => True) wc)) (QPd E (va_A wc sz) rv w1) 0 0 (va_A wc sz)
theorem MWp.of {l : Launch} {y : MethodName} {cc : ByteArray} {maxL : Nat} {ret : Option FieldType} {d : Nat} {E : wE} {av : List Value} {wc : va_W} {rv : Option Value} {w1 : va_W} (hy : plainName y.cls = true) (hlen : (lg_sl av).length ≤ maxL)
    (body : ∀ (p : Program) (e : Env) (s : State) (m : MethodId) (below : List Frame) (meth : Method) (c : Code) (ls : Array Slot) (A : Nat → Prop), CX p s m av.toArray meth c cc maxL ret y.cls → wK E s → wP E wc s.heap → va_D A wc → va_S A s.heap s.heap [] → (∀ q : Nat, s.heap.size ≤ q → A q) → lv_has ls maxL (lv_args 0 av) →
      W p l e (wR d) s m av.toArray below meth c s.heap [] 0 0 (MQ below (QPd E A rv w1) av.toArray s 0 0 A) (F0 m 0 ls [])) : MWp l y cc maxL ret d E av wc rv w1 := by
  intro sz
  refine Met.ofW (cc := cc) (maxL := maxL) (ret := ret) hy rfl ?_
  intro p e s m args below meth c s₁ B hml hv
  obtain ⟨rfl, hsz, hP, ⟨hK, hN⟩, hD⟩ := hv
  have hts := atoms_spec (ws := .code y cc maxL ret :: TBL) B.pre
  have hl := lv_entry av (n := maxL) hlen
  subst hsz
  rw [lg_entry_eq]
  exact body p e s m below meth c _ _ ⟨B.exec, B.bytes, B.returns, hml, fun w hw => hts w (List.mem_cons_of_mem _ hw), findClass_of_methodNamed B.named, B.notSynchronized, hN⟩ hK hP hD.self va_S.rf (fun q h => Or.inr h) hl
theorem MWp.ofW {l : Launch} {y : MethodName} {cc : ByteArray} {maxL : Nat} {ret : Option FieldType} {d : Nat} {E : wE} {av : List Value} {wc w1 : va_W} {rv : Option Value} (h : MW l y cc maxL ret d E av wc rv w1) (hA1 : w1.map Prod.fst = wc.map Prod.fst) : MWp l y cc maxL ret d E av wc rv w1 := by
  intro sz p e h1 h2 h3 s m args below hf ha hP hK
  obtain ⟨n, o, a, b, c, ⟨hv, hp, hF⟩, hL⟩ := h sz p e h1 h2 h3 s m args below hf ha hP hK
  exact ⟨n, o, a, b, c, ⟨hv, hp, (va_D.self hP.2.2.2.2).sameFst hA1, hF⟩, hL⟩
theorem MWp.perm {l : Launch} {y : MethodName} {cc : ByteArray} {maxL : Nat} {ret : Option FieldType} {d : Nat} {E : wE} {av : List Value} {wc w1 w2 : va_W} {rv : Option Value} (h : MWp l y cc maxL ret d E av wc rv w1) (is : List Nat) (hn : va_nd is = true) (hp : is.map (fun i => w1[i]?) = w2.map some) : MWp l y cc maxL ret d E av wc rv w2 := by
  intro sz p e h1 h2 h3 s m args below hf ha hP hK
  obtain ⟨n, o, a, b, c, ⟨hv, hq, hd, hF⟩, hL⟩ := h sz p e h1 h2 h3 s m args below hf ha hP hK
  exact ⟨n, o, a, b, c, ⟨hv, hq.pick is hp, hd.sub is hn hp, hF⟩, hL⟩
theorem fr_set2 {A : Nat → Prop} {D : va_G} {cl : List vw_C} {ws wc w1 : va_W} {H H1 : Heap} (is : List Nat) (hP : va_P D cl ws H) (hD : va_D A ws) (hC : is.map (fun i => ws[i]?) = wc.map some) (hlen : is.length = w1.length) (hnd : va_nd is = true)
    (hk : ∀ q : Nat, q < H.size → ¬ va_A wc H.size q → H1[q]? = H[q]?) (hF : ∀ q, va_A wc H.size q → A q) (hP1 : va_P D cl w1 H1) (hD1 : va_D (va_A wc H.size) w1) : va_P D cl (wsSet ws is w1) H1 ∧ va_D A (wsSet ws is w1) := by
  have outw : ∀ (k : Nat) (q : Nat × va_E), k ∉ is → ws[k]? = some q → q.1 < H.size ∧ ¬ va_A wc H.size q.1 := by
    intro k q h1 h2
    have hlt := (hP k q h2).lt
    refine ⟨hlt, fun hh => ?_⟩
    rcases hh with ⟨j, e, hj⟩ | hh
    · have e1 : (is.map (fun i => ws[i]?))[j]? = some (some (q.1, e)) := by rw [hC, List.getElem?_map, hj]; rfl
      rw [List.getElem?_map] at e1
      cases hi : is[j]? with
      | none => rw [hi] at e1; cases e1
      | some i =>
        rw [hi] at e1
        have e3 := hD.1 i k (q.1, e) q (Option.some.inj e1) h2 rfl
        subst e3
        exact h1 (List.mem_of_getElem? hi)
    · exact absurd hlt (Nat.not_lt.mpr hh)
  -- where a place's entry comes from
  have src : ∀ (is : List Nat) (ws w1 : va_W), va_nd is = true → is.length = w1.length → (∀ i ∈ is, i < ws.length) → ∀ (k : Nat) (q : Nat × va_E), (wsSet ws is w1)[k]? = some q → (∃ j : Nat, is[j]? = some k ∧ w1[j]? = some q) ∨ (k ∉ is ∧ ws[k]? = some q) := by
    intro is
    induction is with
    | nil => intro ws w1 _ _ _ k q hq; exact Or.inr ⟨List.not_mem_nil, by simpa [wsSet] using hq⟩
    | cons i is ih =>
      intro ws w1 hn hl hin k q hq
      cases w1 with
      | nil => simp at hl
      | cons q0 w1 =>
        simp only [va_nd, Bool.and_eq_true, decide_eq_true_eq] at hn
        have hl' : is.length = w1.length := by simpa using hl
        rcases ih (ws.set i q0) w1 hn.2 hl' (fun x hx => by rw [List.length_set]; exact hin x (List.mem_cons_of_mem _ hx)) k q hq with ⟨j, h1, h2⟩ | ⟨h1, h2⟩
        · exact Or.inl ⟨j + 1, by simpa using h1, by simpa using h2⟩
        · rw [List.getElem?_set] at h2
          by_cases hik : i = k
          · subst hik
            simp only [hin i List.mem_cons_self, if_true] at h2
            exact Or.inl ⟨0, rfl, by simpa using h2⟩
          · simp only [hik, if_false] at h2
            exact Or.inr ⟨fun hm => by
              rcases List.mem_cons.mp hm with e | e
              · exact hik e.symm
              · exact h1 e, h2⟩
  have hin : ∀ i ∈ is, i < ws.length := by
    intro i hi
    obtain ⟨j, hj⟩ := List.getElem?_of_mem hi
    have e1 : (is.map (fun i => ws[i]?))[j]? = some (ws[i]?) := by rw [List.getElem?_map, hj]; rfl
    rw [hC, List.getElem?_map] at e1
    cases hw : wc[j]? with
    | none => rw [hw] at e1; cases e1
    | some x =>
      rw [hw] at e1
      exact (List.getElem?_eq_some_iff.mp (Option.some.inj e1).symm).1
  have S := src is ws w1 hnd hlen hin
  refine ⟨fun k q hq => ?_, fun i j x y hx hy hxy => ?_, fun k q hq => ?_⟩
  · rcases S k q hq with ⟨j, -, hj⟩ | ⟨h1, h2⟩
    · exact hP1 j q hj
    · exact (hP k q h2).kept (hk q.1 (outw k q h1 h2).1 (outw k q h1 h2).2)
  · rcases S i x hx with ⟨a, a1, a2⟩ | ⟨a1, a2⟩ <;> rcases S j y hy with ⟨b, b1, b2⟩ | ⟨b1, b2⟩
    · have := hD1.1 a b x y a2 b2 hxy
      subst this
      rw [a1] at b1
      exact Option.some.inj b1
    · exact absurd (by rw [← hxy]; exact hD1.2 a x a2) (outw j y b1 b2).2
    · exact absurd (by rw [hxy]; exact hD1.2 b y b2) (outw i x a1 a2).2
    · exact hD.1 i j x y a2 b2 hxy
  · rcases S k q hq with ⟨j, -, hj⟩ | ⟨h1, h2⟩
    · exact hF _ (hD1.2 j q hj)
    · exact hD.2 k q h2
section KWP
variable {p : Program} {l : Launch} {e : Env} {R : Room} {s : State} {m : MethodId} {args : Array Value} {below : List Frame} {meth : Method} {c : Code} {H : Heap} {locs : List Loc} {Q : State → Prop} {pc : Nat} {ls : Array Slot} {rest st0 : List Value} {a : Array Value}
variable {y : MethodName} {cc cy : ByteArray} {maxL nL n index d : Nat} {ret ret0 : Option FieldType} {own : String} {As : List Value} {E : wE} {rv : Option Value} {b : Nat}
theorem kVWp {st1 : List Value} {A : Nat → Prop} {H0 : Heap} {ws wc w1 ws' : va_W} (is : List Nat) (hX : CX p s m args meth c cc nL ret0 own) (hM : MWp l y cy maxL ret d E (.ref b :: As) wc rv w1) (B : cV y cy maxL ret n) (hlink : Cond.methodLink own index y ∈ TBL) (hK : wK E s) (hP : wP E ws H) (hD : va_D A ws) (hS : va_S A H0 H locs) (hA : ∀ q : Nat, H0.size ≤ q → A q) (hnd : va_nd is = true) (hC : is.map (fun i => ws[i]?) = wc.map some) (hlen : is.length = w1.length) (hw : wsSet ws is w1 = ws') {q0 ci : Nat} {q : vw_C} {fs : List Value} (hc : vwCl[ci]? = some q) (hqC : q.1 = y.cls) (hq : ws[q0]? = some (b, .inr (ci, fs))) (hn : As.length = n) (hsz : ls.size = nL) (hst : st0 = As.reverse ++ .ref b :: rest) (hrm : (rest.map fun v => v.category).sum ≤ 8) (hR : roomOk d maxL R) (hdg : decode cc pc = .ok (.invokevirtual index, 3))
    (hst1 : rv.toList ++ rest = st1) (kk : ∀ (H1 : Heap) (locs1 : List Loc), wP E ws' H1 → va_D A ws' → va_S A H0 H1 locs1 → W p l e R s m args below meth c H1 locs1 0 0 Q (F0 m (pc + 3) ls st1)) : W p l e R s m args below meth c H locs 0 0 Q (F0 m pc ls st0) := by
  have hr := kV0 (l := l) (e := e) (R := R) (below := below) (locs := locs) hX (hM H.size) B hlink ⟨blindW, by rw [← hqC]; exact va_recv hK hP hc hq, fun U hU hW => ⟨rfl, by rw [hU], by rw [hU]; exact hP.pick is hC, ⟨va_K.moved hW.alike hK, wN.mv hW hX.2.2.2.2.2.2.2⟩, hD.pick is hnd hC⟩⟩ hn hsz hst hrm hR hdg
  have hf := fr_free is hD hS hA hC
  intro T hT X
  obtain ⟨v, st₀, t, T', L, h0, X', hL, e1, e2, ⟨hv, hp, hd, hz, hk⟩, st⟩ := hr T hT X
  cases hv
  rw [h0] at hz hk
  rw [hst1] at st
  obtain ⟨g1, g2⟩ := fr_set2 (H1 := T'.heap) is hP hD hC hlen hnd (fun q h1 h2 => by rw [e1]; exact hk q h1 h2) hf (by rw [e1]; exact hp) hd
  rw [hw] at g1 g2
  obtain ⟨t2, a1, b1⟩ := kk T'.heap (locs ++ L) g1 g2
    ⟨Nat.le_trans hS.1 (by rw [e1]; exact hz), fun q h1 h2 => by rw [e1, hk q (Nat.lt_of_lt_of_le h1 hS.1) (fun z => h2 (hf q z))]; exact hS.2.1 q h1 h2, fun q hq => by
      rcases List.mem_append.mp hq with h | h
      · exact hS.2.2 q h
      · exact hf _ (hL q h)⟩ T' rfl X'
  exact ⟨t2, st t2 a1, b1⟩
theorem rPi {A : Nat → Prop} {w0 w1 : va_W} {v r : Int32} {maxL' : Nat} (hX : CX p s m args meth c cc maxL' (some .int) own) (hP : wP E w0 H) (hD : va_D A w0) (hS : va_S A s.heap H locs) (he : v = r) (hw : w0 = w1) (hdg : decode cc pc = .ok (.ireturn, 1)) : W p l e R s m args below meth c H locs 0 0 (MQ below (QPd E A (some (.int r)) w1) args s 0 0 A) (F0 m pc ls [.int v]) := by
  subst he; subst hw
  exact W.iret hX.1 hX.2.1 hX.2.2.1 (fun t ht _ => ⟨rfl, by rw [ht]; exact hP, hD, hS.F ht⟩) hS.2.2 hdg hX.2.2.2.2.2.2.1
end KWP
/-! calls on one part of a world, the other part beside it -/
theorem va_P.left_ {D : va_G} {cl : List vw_C} {wa wb : va_W} {H : Heap} (h : va_P D cl (wa ++ wb) H) : va_P D cl wa H := fun k q hq => h k q (by rw [List.getElem?_append_left (List.getElem?_eq_some_iff.mp hq).1]; exact hq)
theorem va_P.right_ {D : va_G} {cl : List vw_C} {wa wb : va_W} {H : Heap} (h : va_P D cl (wa ++ wb) H) : va_P D cl wb H := fun k q hq => h (wa.length + k) q (by rw [List.getElem?_append_right (Nat.le_add_right _ _), Nat.add_sub_cancel_left]; exact hq)
theorem va_P.app_ {D : va_G} {cl : List vw_C} {wa wb : va_W} {H : Heap} (h1 : va_P D cl wa H) (h2 : va_P D cl wb H) : va_P D cl (wa ++ wb) H := fun k q hq => by
  by_cases hk : k < wa.length
  · rw [List.getElem?_append_left hk] at hq; exact h1 k q hq
  · rw [List.getElem?_append_right (Nat.not_lt.mp hk)] at hq; exact h2 _ q hq
theorem va_D.left {A : Nat → Prop} {wa wb : va_W} (hD : va_D A (wa ++ wb)) : va_D A wa := by
  have key : ∀ (k : Nat) (q : Nat × va_E), wa[k]? = some q → (wa ++ wb)[k]? = some q := fun k q hq => by rw [List.getElem?_append_left (List.getElem?_eq_some_iff.mp hq).1]; exact hq
  exact ⟨fun i j x y hx hy hxy => hD.1 i j x y (key i x hx) (key j y hy) hxy, fun k q hq => hD.2 k q (key k q hq)⟩
theorem va_D.right {A : Nat → Prop} {wa wb : va_W} (hD : va_D A (wa ++ wb)) : va_D A wb := by
  have key : ∀ (k : Nat) (q : Nat × va_E), wb[k]? = some q → (wa ++ wb)[wa.length + k]? = some q := fun k q hq => by rw [List.getElem?_append_right (Nat.le_add_right _ _), Nat.add_sub_cancel_left]; exact hq
  exact ⟨fun i j x y hx hy hxy => by have := hD.1 _ _ x y (key i x hx) (key j y hy) hxy; omega, fun k q hq => hD.2 _ q (key k q hq)⟩
theorem va_D.cross {A : Nat → Prop} {wa wb : va_W} (hD : va_D A (wa ++ wb)) {i j : Nat} {x y : Nat × va_E} (hx : wa[i]? = some x) (hy : wb[j]? = some y) : x.1 ≠ y.1 := by
  intro e
  have hl := (List.getElem?_eq_some_iff.mp hx).1
  have h1 : (wa ++ wb)[i]? = some x := by rw [List.getElem?_append_left hl]; exact hx
  have h2 : (wa ++ wb)[wa.length + j]? = some y := by rw [List.getElem?_append_right (Nat.le_add_right _ _), Nat.add_sub_cancel_left]; exact hy
  have := hD.1 _ _ x y h1 h2 e
  omega
section KLW
variable {p : Program} {l : Launch} {e : Env} {R : Room} {s : State} {m : MethodId} {args : Array Value} {below : List Frame} {meth : Method} {c : Code} {H : Heap} {locs : List Loc} {cells slots : Nat} {Q : State → Prop} {pc : Nat} {ls : Array Slot} {rest st0 : List Value} {a : Array Value} {E : wE} {rv : Option Value} {A : Nat → Prop} {H0 : Heap} {wa wb wa' wb' : va_W}
theorem freeL (hD : va_D A wa) (hS : va_S A H0 H locs) (hA : ∀ q : Nat, H0.size ≤ q → A q) : ∀ q, va_A wa H.size q → A q := by
  intro q h
  rcases h with ⟨k, e, h⟩ | h
  · exact hD.2 k (q, e) h
  · exact hA q (Nat.le_trans hS.1 h)
theorem contWr (hr : va_Run p l e R s m args below meth c H locs cells slots 0 0 (F0 m pc ls st0) rest (QPd E (va_A wb H.size) rv wb' a) (va_A wb H.size)) (ha : wP E wa H) (hD : va_D A (wa ++ wb)) (hS : va_S A H0 H locs) (hA : ∀ q : Nat, H0.size ≤ q → A q)
    (kk : ∀ (H1 : Heap) (locs1 : List Loc), wP E wa H1 → wP E wb' H1 → va_D A (wa ++ wb') → va_S A H0 H1 locs1 → W p l e R s m args below meth c H1 locs1 cells slots Q (F0 m (pc + 3) ls (rv.toList ++ rest))) : W p l e R s m args below meth c H locs cells slots Q (F0 m pc ls st0) := by
  intro T hT X
  obtain ⟨v, st₀, t, T', L, h0, X', hL, e1, e2, ⟨hv, hp, hd, hz, hk⟩, st⟩ := hr T hT X
  cases hv
  rw [h0] at hz hk
  have hf := freeL hD.right hS hA
  have outa : ∀ (k : Nat) (q : Nat × va_E), wa[k]? = some q → q.1 < H.size ∧ ¬ va_A wb H.size q.1 := by
    intro k q hq
    refine ⟨(ha k q hq).lt, fun hh => ?_⟩
    rcases hh with ⟨i, e, hi⟩ | hh
    · exact hD.cross hq hi rfl
    · exact absurd (ha k q hq).lt (Nat.not_lt.mpr hh)
  have ha1 : wP E wa T'.heap := by
    intro k q hq
    refine (ha k q hq).kept ?_
    rw [e1]
    refine hk q.1 (ha k q hq).lt (fun hh => ?_)
    rcases hh with ⟨i, e, hi⟩ | hh
    · exact hD.cross hq hi rfl
    · exact absurd (ha k q hq).lt (Nat.not_lt.mpr hh)
  obtain ⟨t2, a1, b1⟩ := kk T'.heap (locs ++ L) ha1 (by rw [e1]; exact hp) (va_D.app hD.left (hd.weaken (fun k q _ h => hf q.1 h)) (fun i j x y hx hy hxy => (outa i x hx).2 (by rw [hxy]; exact hd.2 j y hy)))
    ⟨Nat.le_trans hS.1 (by rw [e1]; exact hz), fun q h1 h2 => by rw [e1, hk q (Nat.lt_of_lt_of_le h1 hS.1) (fun z => h2 (hf q z))]; exact hS.2.1 q h1 h2, fun q hq => by
      rcases List.mem_append.mp hq with h | h
      · exact hS.2.2 q h
      · exact hf _ (hL q h)⟩ T' rfl X'
  exact ⟨t2, st t2 a1, b1⟩
variable {y : MethodName} {cc cy : ByteArray} {maxL nL n index d : Nat} {ret ret0 : Option FieldType} {own : String} {As : List Value} {b : Nat} {st1 : List Value}
theorem runVl {Pc : Array Value → State → Prop} {Qc : Array Value → State → Outcome → State → Prop} {free : Addr → Prop} (hX : CX p s m args meth c cc nL ret0 own) (hM : Met l y (.code y cy maxL ret :: TBL) (wR d) Pc Qc 0 0 free) (B : cV y cy maxL ret n) (hlink : Cond.methodLink own index y ∈ TBL) (hp : PreV s H y.cls b Pc As) (hn : As.length = n) (hsz : ls.size = nL) (hst : st0 = As.reverse ++ .ref b :: rest) (hrm : (rest.map fun v => v.category).sum ≤ 8) (hR : roomOk d maxL R) (hcs : cells ≤ R.cells ∧ slots ≤ R.slots) (hdg : decode cc pc = .ok (.invokevirtual index, 3)) :
    va_Run p l e R s m args below meth c H locs cells slots 0 0 (F0 m pc ls st0) rest (Qc (Value.ref b :: As).toArray) free := by
  obtain ⟨hx, hb, hr, hml, hts, hown, hlocks, hN⟩ := hX
  exact va_runV (Ts := TBL) (own := own) ⟨hx, hb, hml, hown, hts⟩ hM (cwV (Ts := TBL) n hts (by show GoodIn TBL (_ :: _ :: _ :: _ :: _); exact gcons hlink (gcons B.2.1 (gcons B.2.2.1 (gcons B.2.2.2.1 (gcode B.1))))) rfl rfl rfl ⟨rfl, B.2.2.2.2⟩ hR) hp rfl hn hsz hst (lv_room (rest := st0) hrm) hdg ⟨hcs.1, hcs.2⟩
theorem kVr (hX : CX p s m args meth c cc nL ret0 own) (hM : MWp l y cy maxL ret d E (.ref b :: As) wb rv wb') (B : cV y cy maxL ret n) (hlink : Cond.methodLink own index y ∈ TBL) (hK : wK E s) (ha : wP E wa H) (hb : wP E wb H) (hD : va_D A (wa ++ wb)) (hS : va_S A H0 H locs) (hA : ∀ q : Nat, H0.size ≤ q → A q) {q0 ci : Nat} {q : vw_C} {fs : List Value} (hc : vwCl[ci]? = some q) (hqC : q.1 = y.cls) (hq : wb[q0]? = some (b, .inr (ci, fs))) (hn : As.length = n) (hsz : ls.size = nL) (hst : st0 = As.reverse ++ .ref b :: rest) (hrm : (rest.map fun v => v.category).sum ≤ 8) (hR : roomOk d maxL R) (hcs : cells ≤ R.cells ∧ slots ≤ R.slots) (hdg : decode cc pc = .ok (.invokevirtual index, 3)) (hst1 : rv.toList ++ rest = st1)
    (kk : ∀ (H1 : Heap) (locs1 : List Loc), wP E wa H1 → wP E wb' H1 → va_D A (wa ++ wb') → va_S A H0 H1 locs1 → W p l e R s m args below meth c H1 locs1 cells slots Q (F0 m (pc + 3) ls st1)) : W p l e R s m args below meth c H locs cells slots Q (F0 m pc ls st0) :=
  contWr (runVl hX (hM H.size) B hlink ⟨blindW, by rw [← hqC]; exact va_recv hK hb hc hq, fun U hU hW => ⟨rfl, by rw [hU], by rw [hU]; exact hb, ⟨va_K.moved hW.alike hK, wN.mv hW hX.2.2.2.2.2.2.2⟩, hD.right.weaken (fun _ _ _ _ => trivial)⟩⟩ hn hsz hst hrm hR hcs hdg) ha hD hS hA (by rw [hst1]; exact kk)
theorem kVWr (hX : CX p s m args meth c cc nL ret0 own) (hM : MWp l y cy maxL ret d E (.ref b :: As) wb rv wb') (B : cV y cy maxL ret n) (hlink : Cond.methodLink own index y ∈ TBL) (hK : wK E s) (hP : wP E (wa ++ wb) H) (hD : va_D A (wa ++ wb)) (hS : va_S A H0 H locs) (hA : ∀ q : Nat, H0.size ≤ q → A q) {q0 ci : Nat} {q : vw_C} {fs : List Value} (hc : vwCl[ci]? = some q) (hqC : q.1 = y.cls) (hq : wb[q0]? = some (b, .inr (ci, fs))) (hn : As.length = n) (hsz : ls.size = nL) (hst : st0 = As.reverse ++ .ref b :: rest) (hrm : (rest.map fun v => v.category).sum ≤ 8) (hR : roomOk d maxL R) (hcs : cells ≤ R.cells ∧ slots ≤ R.slots) (hdg : decode cc pc = .ok (.invokevirtual index, 3)) (hst1 : rv.toList ++ rest = st1)
    (kk : ∀ (H1 : Heap) (locs1 : List Loc), wP E (wa ++ wb') H1 → va_D A (wa ++ wb') → va_S A H0 H1 locs1 → W p l e R s m args below meth c H1 locs1 cells slots Q (F0 m (pc + 3) ls st1)) : W p l e R s m args below meth c H locs cells slots Q (F0 m pc ls st0) :=
  kVr hX hM B hlink hK hP.left_ hP.right_ hD hS hA hc hqC hq hn hsz hst hrm hR hcs hdg hst1 (fun H1 locs1 h1 h2 hD hS => kk H1 locs1 (h1.app_ h2) hD hS)
end KLW
