abbrev aS (E : wE) (n : Nat) (f : Nat → Option Nat) : va_E := .inl (E.2.2.2.1, n, .inr (.inr (.inr (.inr f))))
abbrev aT (E : wE) (n : Nat) (f : Nat → Option Nat) : va_E := .inl (E.2.2.2.2, n, .inr (.inr (.inr (.inr f))))
def lq (l : List Nat) : Nat → Option Nat := fun j => l[j]?
theorem lq_up {l : List Nat} {i v : Nat} (k : Nat) (hi : i = k) (h : k < l.length) : va_up (lq l) i (some v) = lq (l.set k v) := by
  subst hi
  funext j
  unfold va_up lq
  by_cases hj : j = i
  · subst hj
    simp [h]
  · rw [if_neg hj, List.getElem?_set_ne (fun e => hj e.symm)]
def rot {α : Type} (f : Nat → α) : Nat → α := fun j => f ((j + 1) % 8)
theorem arrV_congr {cI : ClassId} {n : Nat} {F G : Nat → Value} (h : ∀ j, j < n → F j = G j) : arrV cI n F = arrV cI n G := by
  unfold arrV
  congr 2
  funext j
  exact h j.val j.isLt
theorem at_congr {E : wE} {n a : Nat} {f g : Nat → Int32} {H : Heap} (h : ∀ j, j < n → f j = g j) (hh : va_at E.1 vwCl (a, aI E n f) H) : va_at E.1 vwCl (a, aI E n g) H := by
  have e : vp_cell E.2.1 (n, .inl f) = vp_cell E.2.1 (n, .inl g) := by
    rw [vp_cell_i, vp_cell_i]
    exact arrV_congr (fun j hj => by rw [h j hj])
  show H[a]? = some (vp_cell E.2.1 (n, .inl g))
  rw [← e]
  exact hh
theorem P_congr {E : wE} {n a q : Nat} {f g : Nat → Int32} {ws : va_W} {H : Heap} (h : ∀ j, j < n → f j = g j) (hh : wP E (ws.set q (a, aI E n f)) H) : wP E (ws.set q (a, aI E n g)) H := by
  intro k x hx
  rw [List.getElem?_set] at hx
  by_cases hk : q = k
  · subst hk
    by_cases hl : q < ws.length
    · simp only [hl, if_true] at hx
      cases hx
      have := hh q (a, aI E n f) (by rw [List.getElem?_set]; simp [hl])
      exact at_congr h this
    · simp [hl] at hx
  · simp only [hk, if_false] at hx
    exact hh k x (by rw [List.getElem?_set]; simp [hk, hx])
section KCP
variable {p : Program} {l : Launch} {e : Env} {R : Room} {s : State} {m : MethodId} {args : Array Value} {below : List Frame} {meth : Method} {c : Code} {H : Heap} {locs : List Loc} {Q : State → Prop} {pc : Nat} {ls : Array Slot} {rest : List Value} {nL index : Nat} {cc : ByteArray} {ret0 : Option FieldType} {own : String} {E : wE}
theorem kCopy {A : Nat → Prop} {H0 : Heap} {ws : va_W} {a0 a n : Nat} {f g : Nat → Int32} (hX : CX p s m args meth c cc nL ret0 own) (hsz : ls.size = nL) (hlink : Cond.methodLink own index arraycopyName ∈ TBL) (hnat : Cond.native arraycopyName ∈ TBL) (hstat : Cond.static arraycopyName ∈ TBL) (hini : Cond.initialized "java/lang/System" ∈ TBL) (hK : wK E s) (hP : wP E ws H) (hD : va_D A ws) (hS : va_S A H0 H locs) (q0 q1 : Nat) (hn : n < 2 ^ 31) (ha0 : ws[q0]? = some (a0, aI E n f)) (ha1 : ws[q1]? = some (a, aI E n g)) (hR : 1 ≤ R.frames ∧ (rest.map fun v => v.category).sum + (nativeFrameWords "java/lang/System" "arraycopy" 5 + 11) ≤ R.locals) (hdg : decode cc pc = .ok (.invokestatic index, 3))
    (kk : ∀ (H1 : Heap) (locs1 : List Loc), wP E (ws.set q1 (a, aI E n f)) H1 → va_D A (ws.set q1 (a, aI E n f)) → va_S A H0 H1 locs1 → W p l e R s m args below meth c H1 locs1 0 0 Q (F0 m (pc + 3) ls rest)) : W p l e R s m args below meth c H locs 0 0 Q (F0 m pc ls (.int (j_min (Int32.ofNat n) (Int32.ofNat n)) :: .int 0 :: .ref a :: .int 0 :: .ref a0 :: rest)) := by
  have em : j_min (Int32.ofNat n) (Int32.ofNat n) = nI n := by unfold j_min nI; split <;> rfl
  rw [em]
  have ec : (nI n).toNatClampNeg = n := nI_clamp hn
  have e0 : (0 : Int32).toNatClampNeg = 0 := by decide
  refine va_copyi hX.1 hX.2.1 (by rw [hX.2.2.2.1, hsz]) hX.2.2.2.2.2.1 (hX.2.2.2.2.1 _ hlink) (hX.2.2.2.2.1 _ hnat) (hX.2.2.2.2.1 _ hstat) (hX.2.2.2.2.1 _ hini) hK hP hD hS q0 q1 0 0 ha0 ha1 rfl rfl rfl (by decide) (by decide) (nI_pos hn) (by rw [e0, ec]; omega) (by rw [e0, ec]; omega) (fun _ _ => rfl) hR.1 hR.2 hdg (fun H1 locs1 hP1 hD1 hS1 => ?_)
  refine kk H1 locs1 (P_congr (fun j hj => ?_) hP1) (hD.set ha1) hS1
  rw [e0, ec]
  unfold va_cpy
  rw [if_pos ⟨Nat.zero_le _, by omega⟩]
  simp
end KCP
section KRR
variable {p : Program} {l : Launch} {e : Env} {R : Room} {s : State} {m : MethodId} {args : Array Value} {below : List Frame} {meth : Method} {c : Code} {pc : Nat} {ls : Array Slot} {cc : ByteArray} {maxL : Nat} {n0 : String} {own : String} {E : wE}
theorem rRr {v : Nat} (hX : CX p s m args meth c cc maxL (some (.object n0)) own) (hdg : decode cc pc = .ok (.areturn, 1)) : W p l e R s m args below meth c s.heap [] 0 0 (MQ below (QRd E (some (.ref v))) args s 0 0 (fun _ => False)) (F0 m pc ls [.ref v]) :=
  W.aret hX.1 hX.2.1 hX.2.2.1 (Or.inl ⟨_, rfl⟩) (Or.inr ⟨_, rfl⟩) (fun t ht _ => ⟨rfl, ht⟩) (fun q h => by cases h) hdg hX.2.2.2.2.2.2
theorem rRn (hX : CX p s m args meth c cc maxL (some (.object n0)) own) (hdg : decode cc pc = .ok (.areturn, 1)) : W p l e R s m args below meth c s.heap [] 0 0 (MQ below (QRd E (some .null)) args s 0 0 (fun _ => False)) (F0 m pc ls [.null]) :=
  W.aret hX.1 hX.2.1 hX.2.2.1 (Or.inl ⟨_, rfl⟩) (Or.inl rfl) (fun t ht _ => ⟨rfl, ht⟩) (fun q h => by cases h) hdg hX.2.2.2.2.2.2
end KRR
abbrev pastW (E : wE) (aP : Nat) (A H K T : Nat → Nat) (O Y : Nat → Int32) (h k t : Nat → Nat → Int32) : va_W := [(aP, aS E 8 (lq [A 0, A 1, A 2, A 3, A 4, A 5, A 6, A 7])), (A 0, .inr (1, [.int (O 0), .int (Y 0), .ref (H 0), .ref (K 0), .ref (T 0)])), (H 0, aI E 6 (h 0)), (K 0, aI E 30 (k 0)), (T 0, aI E 30 (t 0)), (A 1, .inr (1, [.int (O 1), .int (Y 1), .ref (H 1), .ref (K 1), .ref (T 1)])), (H 1, aI E 6 (h 1)), (K 1, aI E 30 (k 1)), (T 1, aI E 30 (t 1)), (A 2, .inr (1, [.int (O 2), .int (Y 2), .ref (H 2), .ref (K 2), .ref (T 2)])), (H 2, aI E 6 (h 2)), (K 2, aI E 30 (k 2)), (T 2, aI E 30 (t 2)), (A 3, .inr (1, [.int (O 3), .int (Y 3), .ref (H 3), .ref (K 3), .ref (T 3)])), (H 3, aI E 6 (h 3)), (K 3, aI E 30 (k 3)), (T 3, aI E 30 (t 3)), (A 4, .inr (1, [.int (O 4), .int (Y 4), .ref (H 4), .ref (K 4), .ref (T 4)])), (H 4, aI E 6 (h 4)), (K 4, aI E 30 (k 4)), (T 4, aI E 30 (t 4)), (A 5, .inr (1, [.int (O 5), .int (Y 5), .ref (H 5), .ref (K 5), .ref (T 5)])), (H 5, aI E 6 (h 5)), (K 5, aI E 30 (k 5)), (T 5, aI E 30 (t 5)), (A 6, .inr (1, [.int (O 6), .int (Y 6), .ref (H 6), .ref (K 6), .ref (T 6)])), (H 6, aI E 6 (h 6)), (K 6, aI E 30 (k 6)), (T 6, aI E 30 (t 6)), (A 7, .inr (1, [.int (O 7), .int (Y 7), .ref (H 7), .ref (K 7), .ref (T 7)])), (H 7, aI E 6 (h 7)), (K 7, aI E 30 (k 7)), (T 7, aI E 30 (t 7))]
section KWA
variable {p : Program} {l : Launch} {e : Env} {R : Room} {s : State} {m : MethodId} {args : Array Value} {below : List Frame} {meth : Method} {c : Code} {H : Heap} {locs : List Loc} {Q : State → Prop} {pc : Nat} {ls : Array Slot} {rest st0 : List Value} {a : Array Value}
variable {y : MethodName} {cc cy : ByteArray} {maxL nL n index d : Nat} {ret ret0 : Option FieldType} {own : String} {As : List Value} {E : wE} {rv : Option Value} {b : Nat}
theorem va_D.sameFst {A : Nat → Prop} {ws ws' : va_W} (hD : va_D A ws) (h : ws'.map Prod.fst = ws.map Prod.fst) : va_D A ws' := by
  have pull : ∀ (k : Nat) (q : Nat × va_E), ws'[k]? = some q → ∃ q', ws[k]? = some q' ∧ q'.1 = q.1 := by
    intro k q hq
    have e := congrArg (fun l => l[k]?) h
    simp only [List.getElem?_map, hq] at e
    cases hw : ws[k]? with
    | none => rw [hw] at e; simp at e
    | some x => rw [hw] at e; exact ⟨x, rfl, (Option.some.inj e).symm⟩
  refine ⟨fun i j x y hx hy hxy => ?_, fun k q hq => ?_⟩
  · obtain ⟨x', a1, a2⟩ := pull i x hx
    obtain ⟨y', b1, b2⟩ := pull j y hy
    exact hD.1 i j x' y' a1 b1 (by rw [a2, b2, hxy])
  · obtain ⟨x', a1, a2⟩ := pull k q hq
    rw [← a2]; exact hD.2 k x' a1
theorem kVWa {A : Nat → Prop} {H0 : Heap} {ws w1 : va_W} {st1 : List Value} (hX : CX p s m args meth c cc nL ret0 own) (hM : MW l y cy maxL ret d E (.ref b :: As) ws rv w1) (B : cV y cy maxL ret n) (hlink : Cond.methodLink own index y ∈ TBL) (hK : wK E s) (hP : wP E ws H) (hD : va_D A ws) (hS : va_S A H0 H locs) (hA : ∀ q : Nat, H0.size ≤ q → A q) (hA1 : w1.map Prod.fst = ws.map Prod.fst) {q0 ci : Nat} {q : vw_C} {fs : List Value} (hc : vwCl[ci]? = some q) (hqC : q.1 = y.cls) (hq : ws[q0]? = some (b, .inr (ci, fs))) (hn : As.length = n) (hsz : ls.size = nL) (hst : st0 = As.reverse ++ .ref b :: rest) (hrm : (rest.map fun v => v.category).sum ≤ 8) (hR : roomOk d maxL R) (hdg : decode cc pc = .ok (.invokevirtual index, 3))
    (hst1 : rv.toList ++ rest = st1) (kk : ∀ (H1 : Heap) (locs1 : List Loc), wP E w1 H1 → va_D A w1 → va_S A H0 H1 locs1 → W p l e R s m args below meth c H1 locs1 0 0 Q (F0 m (pc + 3) ls st1)) : W p l e R s m args below meth c H locs 0 0 Q (F0 m pc ls st0) := by
  have hr := kV0 (l := l) (e := e) (R := R) (below := below) (locs := locs) hX (hM H.size) B hlink ⟨blindW, by rw [← hqC]; exact va_recv hK hP hc hq, fun U hU hW => ⟨rfl, by rw [hU], by rw [hU]; exact hP, va_K.moved hW.alike hK, hD.weaken (fun _ _ _ _ => trivial)⟩⟩ hn hsz hst hrm hR hdg
  have hf : ∀ q, va_A ws H.size q → A q := by
    intro q h
    rcases h with ⟨k, e, h⟩ | h
    · exact hD.2 k (q, e) h
    · exact hA q (Nat.le_trans hS.1 h)
  intro T hT X
  obtain ⟨v, st₀, t, T', L, h0, X', hL, e1, e2, ⟨hv, hp, hz, hk⟩, st⟩ := hr T hT X
  cases hv
  rw [h0] at hz hk
  rw [hst1] at st
  obtain ⟨t2, a1, b1⟩ := kk T'.heap (locs ++ L) (by rw [e1]; exact hp) (hD.sameFst hA1)
    ⟨Nat.le_trans hS.1 (by rw [e1]; exact hz), fun q h1 h2 => by rw [e1, hk q (Nat.lt_of_lt_of_le h1 hS.1) (fun z => h2 (hf q z))]; exact hS.2.1 q h1 h2, fun q hq => by
      rcases List.mem_append.mp hq with h | h
      · exact hS.2.2 q h
      · exact hf _ (hL q h)⟩ T' rfl X'
  exact ⟨t2, st t2 a1, b1⟩
end KWA
