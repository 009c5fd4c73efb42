/-! worlds put together out of two, by a mask -/
def mg : List Bool → va_W → va_W → va_W
  | [], a, b => a ++ b
  | c :: m, a, b => match c with
    | true => (match a with
      | [] => b
      | q :: a => q :: mg m a b)
    | false => (match b with
      | [] => a
      | q :: b => q :: mg m a b)
def un : List Bool → va_W → va_W
  | [], l => l
  | c :: m, l => match l with
    | [] => []
    | q :: l => match c with
      | true => un m l
      | false => q :: un m l
def sel : List Bool → va_W → va_W
  | [], _ => []
  | c :: m, l => match l with
    | [] => []
    | q :: l => match c with
      | true => q :: sel m l
      | false => sel m l
theorem mg_sel : ∀ (m : List Bool) (l : va_W), mg m (sel m l) (un m l) = l
  | [], l => rfl
  | true :: m, [] => rfl
  | false :: m, [] => rfl
  | true :: m, q :: l => congrArg (List.cons q) (mg_sel m l)
  | false :: m, q :: l => congrArg (List.cons q) (mg_sel m l)
theorem mg_perm : ∀ (m : List Bool) (a b : va_W), List.Perm (mg m a b) (a ++ b)
  | [], a, b => List.Perm.refl _
  | true :: m, [], b => List.Perm.refl _
  | true :: m, q :: a, b => (mg_perm m a b).cons q
  | false :: m, a, [] => by show List.Perm a (a ++ []); rw [List.append_nil]
  | false :: m, a, q :: b => ((mg_perm m a b).cons q).trans List.perm_middle.symm
theorem va_P.ofPerm {D : va_G} {cl : List vw_C} {ws ws' : va_W} {H : Heap} (h : List.Perm ws ws') (hP : va_P D cl ws H) : va_P D cl ws' H := fun k q hq => by
  have h1 : q ∈ ws := h.mem_iff.mpr (List.mem_of_getElem? hq)
  obtain ⟨i, hi⟩ := List.getElem?_of_mem h1
  exact hP i q hi
theorem va_D.nodup {A : Nat → Prop} {ws : va_W} (hD : va_D A ws) : (ws.map Prod.fst).Nodup := by
  refine List.pairwise_iff_getElem.mpr (fun i j hi hj hij e => ?_)
  rw [List.length_map] at hi hj
  rw [List.getElem_map, List.getElem_map] at e
  have := hD.1 i j ws[i] ws[j] (List.getElem?_eq_getElem hi) (List.getElem?_eq_getElem hj) e
  omega
theorem va_D.ofNodup {A : Nat → Prop} {ws : va_W} (h : (ws.map Prod.fst).Nodup) (hA : ∀ q ∈ ws, A q.1) : va_D A ws := by
  refine ⟨fun i j p q hp hq e => ?_, fun k q hq => hA q (List.mem_of_getElem? hq)⟩
  obtain ⟨hi, ei⟩ := List.getElem?_eq_some_iff.mp hp
  obtain ⟨hj, ej⟩ := List.getElem?_eq_some_iff.mp hq
  have hw := List.pairwise_iff_getElem.mp h
  rcases Nat.lt_trichotomy i j with hij | hij | hij
  · exact absurd (by rw [List.getElem_map, List.getElem_map, ei, ej]; exact e) (hw i j (by rw [List.length_map]; exact hi) (by rw [List.length_map]; exact hj) hij)
  · exact hij
  · exact absurd (by rw [List.getElem_map, List.getElem_map, ei, ej]; exact e.symm) (hw j i (by rw [List.length_map]; exact hj) (by rw [List.length_map]; exact hi) hij)
theorem va_D.ofPerm {A : Nat → Prop} {ws ws' : va_W} (h : List.Perm ws ws') (hD : va_D A ws) : va_D A ws' := by
  refine va_D.ofNodup ((h.map Prod.fst).nodup_iff.mp hD.nodup) (fun q hq => ?_)
  obtain ⟨i, hi⟩ := List.getElem?_of_mem (h.mem_iff.mpr hq)
  exact hD.2 i q hi
theorem va_A.ofPerm {ws ws' : va_W} {sz : Nat} (h : List.Perm ws ws') (q : Nat) (hq : va_A ws sz q) : va_A ws' sz q := by
  rcases hq with ⟨k, e, hk⟩ | hq
  · obtain ⟨i, hi⟩ := List.getElem?_of_mem (h.mem_iff.mp (List.mem_of_getElem? hk))
    exact Or.inl ⟨i, e, hi⟩
  · exact Or.inr hq
theorem va_A.left_ {wa wb : va_W} {sz : Nat} (q : Nat) (hq : va_A wa sz q) : va_A (wa ++ wb) sz q := by
  rcases hq with ⟨k, e, hk⟩ | hq
  · exact Or.inl ⟨k, e, by rw [List.getElem?_append_left (List.getElem?_eq_some_iff.mp hk).1]; exact hk⟩
  · exact Or.inr hq
theorem out_rest {wa wb : va_W} {D : va_G} {cl : List vw_C} {H : Heap} {A : Nat → Prop} {sz : Nat} (hsz : H.size = sz) (hP : va_P D cl wb H) (hD : va_D A (wa ++ wb)) (k : Nat) (q : Nat × va_E) (hq : wb[k]? = some q) : q.1 < H.size ∧ ¬ va_A wa sz q.1 := by
  refine ⟨(hP k q hq).lt, fun hh => ?_⟩
  rcases hh with ⟨i, e, hi⟩ | hh
  · exact hD.cross hi hq rfl
  · exact absurd (hP k q hq).lt (by rw [hsz]; exact Nat.not_lt.mpr hh)
theorem MWp.frame {l : Launch} {y : MethodName} {cc : ByteArray} {maxL : Nat} {ret : Option FieldType} {d : Nat} {E : wE} {av : List Value} {wa wb wa' : va_W} {rv : Option Value} (h : MWp l y cc maxL ret d E av wa rv wa') : MWp l y cc maxL ret d E av (wa ++ wb) rv (wa' ++ wb) := by
  intro sz p e h1 h2 h3 s m args below hf ha hP hK
  obtain ⟨rfl, hsz, hPw, hKw, hDw⟩ := hP
  obtain ⟨n, o, a, b, c, ⟨hv, hp, hd, hF⟩, L, hFE, hfr⟩ := h sz p e h1 h2 h3 s m av.toArray below hf ha ⟨rfl, hsz, hPw.left_, hKw, hDw.left⟩ hK
  have out := out_rest hsz hPw.right_ hDw
  have hb1 : wP E wb (stepsAlone p.tables e n s).heap := fun k q hq => (hPw.right_ k q hq).kept (hF.2 q.1 (out k q hq).1 (out k q hq).2)
  have hDs : va_D (va_A (wa ++ wb) sz) (wa ++ wb) := va_D.self hDw
  exact ⟨n, o, a, b, c, ⟨hv, hp.app_ hb1, va_D.app (hd.weaken (fun k q _ h => va_A.left_ _ h)) hDs.right (fun i j x y hx hy hxy => (out j y hy).2 (by rw [← hxy]; exact hd.2 i x hx)), hF.1, fun q hq hn => hF.2 q hq (fun hh => hn (va_A.left_ q hh))⟩, L, hFE, fun q hq => va_A.left_ _ (hfr q hq)⟩
theorem MWp.ofPerm {l : Launch} {y : MethodName} {cc : ByteArray} {maxL : Nat} {ret : Option FieldType} {d : Nat} {E : wE} {av : List Value} {wc w1 ws ws' : va_W} {rv : Option Value} (hp0 : List.Perm ws wc) (hp1 : List.Perm w1 ws') (h : MWp l y cc maxL ret d E av wc rv w1) : MWp l y cc maxL ret d E av ws rv ws' := by
  intro sz p e h1 h2 h3 s m args below hf ha hP hK
  obtain ⟨rfl, hsz, hPw, hKw, hDw⟩ := hP
  obtain ⟨n, o, a, b, c, ⟨hv, hp, hd, hF⟩, L, hFE, hfr⟩ := h sz p e h1 h2 h3 s m av.toArray below hf ha ⟨rfl, hsz, va_P.ofPerm hp0 hPw, hKw, va_D.ofPerm hp0 hDw⟩ hK
  have sub : ∀ q, va_A wc sz q → va_A ws sz q := va_A.ofPerm hp0.symm
  exact ⟨n, o, a, b, c, ⟨hv, va_P.ofPerm hp1 hp, va_D.ofPerm hp1 (hd.weaken (fun k q _ h => sub _ h)), hF.1, fun q hq hn => hF.2 q hq (fun hh => hn (sub q hh))⟩, L, hFE, fun q hq => sub _ (hfr q hq)⟩
/-- a contract over more cells -/
theorem MWp.lift {l : Launch} {y : MethodName} {cc : ByteArray} {maxL : Nat} {ret : Option FieldType} {d : Nat} {E : wE} {av : List Value} {wc w1 ws ws' : va_W} {rv : Option Value} (m : List Bool) (h : MWp l y cc maxL ret d E av wc rv w1) (hC : sel m ws = wc) (hw : sel m ws' = w1) (hU : un m ws = un m ws') : MWp l y cc maxL ret d E av ws rv ws' := by
  subst hC; subst hw
  refine MWp.ofPerm ?_ ?_ (MWp.frame (wb := un m ws) h)
  · have := mg_perm m (sel m ws) (un m ws); rw [mg_sel] at this; exact this
  · have := mg_perm m (sel m ws') (un m ws'); rw [mg_sel] at this; rw [hU]; exact this.symm
/-- a contract with its cells in another order -/
theorem perm_of {ws wc : va_W} (is : List Nat) (hr : List.Perm is (List.range ws.length)) (h : is.map (fun i => ws[i]?) = wc.map some) : List.Perm ws wc := by
  have h1 : List.Perm ((List.range ws.length).map (fun i => ws[i]?)) (wc.map some) := by rw [← h]; exact (hr.map _).symm
  have h2 : (List.range ws.length).map (fun i => ws[i]?) = ws.map some := by
    refine List.ext_getElem? (fun i => ?_)
    rw [List.getElem?_map, List.getElem?_map]
    by_cases hi : i < ws.length
    · rw [List.getElem?_range hi, List.getElem?_eq_getElem hi]; simp
    · rw [List.getElem?_eq_none (by rw [List.length_range]; omega), List.getElem?_eq_none (by omega)]; rfl
  rw [h2] at h1
  have h3 := h1.filterMap id
  rw [List.filterMap_map, List.filterMap_map] at h3
  simpa using h3
theorem MWp.lift2 {l : Launch} {y : MethodName} {cc : ByteArray} {maxL : Nat} {ret : Option FieldType} {d : Nat} {E : wE} {av : List Value} {wc w1 ws ws' : va_W} {rv : Option Value} (m : List Bool) (n : Nat) (is js : List Nat) (h : MWp l y cc maxL ret d E av wc rv w1) (hl : (sel m ws).length = n) (hr : List.Perm is (List.range n)) (hC : is.map (fun i => (sel m ws)[i]?) = wc.map some) (hk : w1.length = n) (hs : List.Perm js (List.range n)) (hw : js.map (fun i => w1[i]?) = (sel m ws').map some) (hU : un m ws = un m ws') : MWp l y cc maxL ret d E av ws rv ws' :=
  MWp.lift m (MWp.ofPerm (perm_of is (by rw [hl]; exact hr) hC) (perm_of js (by rw [hk]; exact hs) hw) h) rfl rfl hU
theorem MW.ofR {l : Launch} {y : MethodName} {cc : ByteArray} {maxL : Nat} {ret : Option FieldType} {d : Nat} {E : wE} {av : List Value} {wc : va_W} {rv : Option Value} (h : MR l y cc maxL ret d E av wc rv) : MW l y cc maxL ret d E av wc rv wc := by
  intro sz p e h1 h2 h3 s m args below hf ha hP hK
  obtain ⟨rfl, hsz, hPw, hKw, hDw⟩ := hP
  obtain ⟨n, o, a, b, c, ⟨hv, hh⟩, L, hFE, hfr⟩ := h p e h1 h2 h3 s m av.toArray below hf ha ⟨rfl, hPw, hKw⟩ hK
  exact ⟨n, o, a, b, c, ⟨hv, by rw [hh]; exact hPw, Nat.le_of_eq (by rw [hh]), fun q _ _ => by rw [hh]⟩, L, hFE, fun q hq => (hfr q hq).elim⟩
theorem MWs.frame {l : Launch} {y : MethodName} {cc : ByteArray} {maxL : Nat} {ret : Option FieldType} {d : Nat} {E : wE} {Z : sE} {av : List Value} {wa wb wa' : va_W} {rv : Option Value} (h : MWs l y cc maxL ret d E Z av wa rv wa') : MWs l y cc maxL ret d E Z av (wa ++ wb) rv (wa' ++ wb) := by
  intro sz p e h1 h2 h3 s m args below hf ha hP hK
  obtain ⟨rfl, ⟨hsz, hPw, hKw, hDw⟩, hS⟩ := hP
  obtain ⟨n, o, a, b, c, ⟨hv, hp, hF⟩, L, hFE, hfr⟩ := h sz p e h1 h2 h3 s m av.toArray below hf ha ⟨rfl, ⟨hsz, hPw.left_, hKw, hDw.left⟩, hS.narrow (fun q hq => va_A.left_ q hq)⟩ hK
  have out := out_rest hsz hPw.right_ hDw
  have hb1 : wP E wb (stepsAlone p.tables e n s).heap := fun k q hq => (hPw.right_ k q hq).kept (hF.2 q.1 (out k q hq).1 (out k q hq).2)
  exact ⟨n, o, a, b, c, ⟨hv, hp.app_ hb1, hF.1, fun q hq hn => hF.2 q hq (fun hh => hn (va_A.left_ q hh))⟩, L, hFE, fun q hq => va_A.left_ _ (hfr q hq)⟩
theorem MWs.ofPerm {l : Launch} {y : MethodName} {cc : ByteArray} {maxL : Nat} {ret : Option FieldType} {d : Nat} {E : wE} {Z : sE} {av : List Value} {wc w1 ws ws' : va_W} {rv : Option Value} (hp0 : List.Perm ws wc) (hp1 : List.Perm w1 ws') (h : MWs l y cc maxL ret d E Z av wc rv w1) : MWs l y cc maxL ret d E Z av ws rv ws' := by
  intro sz p e h1 h2 h3 s m args below hf ha hP hK
  obtain ⟨rfl, ⟨hsz, hPw, hKw, hDw⟩, hS⟩ := hP
  have sub : ∀ q, va_A wc sz q → va_A ws sz q := va_A.ofPerm hp0.symm
  obtain ⟨n, o, a, b, c, ⟨hv, hp, hF⟩, L, hFE, hfr⟩ := h sz p e h1 h2 h3 s m av.toArray below hf ha ⟨rfl, ⟨hsz, va_P.ofPerm hp0 hPw, hKw, va_D.ofPerm hp0 hDw⟩, hS.narrow sub⟩ hK
  exact ⟨n, o, a, b, c, ⟨hv, va_P.ofPerm hp1 hp, hF.1, fun q hq hn => hF.2 q hq (fun hh => hn (sub q hh))⟩, L, hFE, fun q hq => sub _ (hfr q hq)⟩
theorem MWs.lift {l : Launch} {y : MethodName} {cc : ByteArray} {maxL : Nat} {ret : Option FieldType} {d : Nat} {E : wE} {Z : sE} {av : List Value} {wc w1 ws ws' : va_W} {rv : Option Value} (m : List Bool) (h : MWs l y cc maxL ret d E Z av wc rv w1) (hC : sel m ws = wc) (hw : sel m ws' = w1) (hU : un m ws = un m ws') : MWs l y cc maxL ret d E Z av ws rv ws' := by
  subst hC; subst hw
  refine MWs.ofPerm ?_ ?_ (MWs.frame (wb := un m ws) h)
  · have := mg_perm m (sel m ws) (un m ws); rw [mg_sel] at this; exact this
  · have := mg_perm m (sel m ws') (un m ws'); rw [mg_sel] at this; rw [hU]; exact this.symm
theorem MWs.lift2 {l : Launch} {y : MethodName} {cc : ByteArray} {maxL : Nat} {ret : Option FieldType} {d : Nat} {E : wE} {Z : sE} {av : List Value} {wc w1 ws ws' : va_W} {rv : Option Value} (m : List Bool) (n : Nat) (is js : List Nat) (h : MWs l y cc maxL ret d E Z av wc rv w1) (hl : (sel m ws).length = n) (hr : List.Perm is (List.range n)) (hC : is.map (fun i => (sel m ws)[i]?) = wc.map some) (hk : w1.length = n) (hs : List.Perm js (List.range n)) (hw : js.map (fun i => w1[i]?) = (sel m ws').map some) (hU : un m ws = un m ws') : MWs l y cc maxL ret d E Z av ws rv ws' :=
  MWs.lift m (MWs.ofPerm (perm_of is (by rw [hl]; exact hr) hC) (perm_of js (by rw [hk]; exact hs) hw) h) rfl rfl hU
theorem MWs.qp {l : Launch} {y : MethodName} {cc : ByteArray} {maxL : Nat} {ret : Option FieldType} {d sz : Nat} {E : wE} {Z : sE} {av : List Value} {wc w1 : va_W} {rv : Option Value} (h : Met l y (.code y cc maxL ret :: TBL) (wR d) (va_Pc av (fun U => (U.heap.size = sz ∧ wP E wc U.heap ∧ wK2 E U ∧ va_D (fun _ => True) wc) ∧ SF Z (va_A wc sz) U U.heap)) (QWd E (va_A wc sz) rv w1) 0 0 (va_A wc sz)) (hA1 : w1.map Prod.fst = wc.map Prod.fst) : Met l y (.code y cc maxL ret :: TBL) (wR d) (va_Pc av (fun U => (U.heap.size = sz ∧ wP E wc U.heap ∧ wK2 E U ∧ va_D (fun _ => True) wc) ∧ SF Z (va_A wc sz) U U.heap)) (QPd E (va_A wc sz) rv w1) 0 0 (va_A wc sz) := by
  intro p e h1 h2 h3 s m args below hf ha hP hK
  obtain ⟨n, o, a, b, c, ⟨hv, hp, hF⟩, hL⟩ := h p e h1 h2 h3 s m args below hf ha hP hK
  exact ⟨n, o, a, b, c, ⟨hv, hp, (va_D.self hP.2.1.2.2.2).sameFst hA1, hF⟩, hL⟩
theorem MWs.ofW {l : Launch} {y : MethodName} {cc : ByteArray} {maxL : Nat} {ret : Option FieldType} {d : Nat} {E : wE} {Z : sE} {av : List Value} {wc w1 : va_W} {rv : Option Value} (h : MW l y cc maxL ret d E av wc rv w1) : MWs l y cc maxL ret d E Z av wc rv w1 := by
  intro sz p e h1 h2 h3 s m args below hf ha hP hK
  exact h sz p e h1 h2 h3 s m args below hf ha ⟨hP.1, hP.2.1⟩ hK
theorem va_D.fst {A : Nat → Prop} {ws ws' : va_W} (hD : va_D A ws) (h : ws'.map Prod.fst = ws.map Prod.fst) : va_D A ws' := by
  have pull : ∀ (k : Nat) (q : Nat × va_E), ws'[k]? = some q → ∃ q', ws[k]? = some q' ∧ q'.1 = q.1 := by
    intro k q hq
    have e := congrArg (fun l => l[k]?) h
    simp only [List.getElem?_map, hq] at e
    cases hw : ws[k]? with
    | none => rw [hw] at e; simp at e
    | some x => rw [hw] at e; exact ⟨x, rfl, (Option.some.inj e).symm⟩
  refine ⟨fun i j x y hx hy hxy => ?_, fun k q hq => ?_⟩
  · obtain ⟨x', a1, a2⟩ := pull i x hx
    obtain ⟨y', b1, b2⟩ := pull j y hy
    exact hD.1 i j x' y' a1 b1 (by rw [a2, b2, hxy])
  · obtain ⟨x', a1, a2⟩ := pull k q hq
    rw [← a2]; exact hD.2 k x' a1
section KLW
variable {p : Program} {l : Launch} {e : Env} {R : Room} {s : State} {m : MethodId} {args : Array Value} {below : List Frame} {meth : Method} {c : Code} {H : Heap} {locs : List Loc} {cells slots : Nat} {Q : State → Prop} {pc : Nat} {ls : Array Slot} {rest st0 : List Value} {a : Array Value} {E : wE} {rv : Option Value} {A : Nat → Prop} {H0 : Heap} {wa wb wa' wb' : va_W}
theorem contWl (hr : va_Run p l e R s m args below meth c H locs cells slots 0 0 (F0 m pc ls st0) rest (QPd E (va_A wa H.size) rv wa' a) (va_A wa H.size)) (hb : wP E wb H) (hD : va_D A (wa ++ wb)) (hS : va_S A H0 H locs) (hA : ∀ q : Nat, H0.size ≤ q → A q)
    (kk : ∀ (H1 : Heap) (locs1 : List Loc), wP E wa' H1 → wP E wb H1 → va_D A (wa' ++ wb) → va_S A H0 H1 locs1 → W p l e R s m args below meth c H1 locs1 cells slots Q (F0 m (pc + 3) ls (rv.toList ++ rest))) : W p l e R s m args below meth c H locs cells slots Q (F0 m pc ls st0) := by
  intro T hT X
  obtain ⟨v, st₀, t, T', L, h0, X', hL, e1, e2, ⟨hv, hp, hd, hz, hk⟩, st⟩ := hr T hT X
  cases hv
  rw [h0] at hz hk
  have hf := freeL hD.left hS hA
  have outb : ∀ (k : Nat) (q : Nat × va_E), wb[k]? = some q → q.1 < H.size ∧ ¬ va_A wa H.size q.1 := by
    intro k q hq
    refine ⟨(hb k q hq).lt, fun hh => ?_⟩
    rcases hh with ⟨i, e, hi⟩ | hh
    · exact hD.cross hi hq rfl
    · exact absurd (hb k q hq).lt (Nat.not_lt.mpr hh)
  have hb1 : wP E wb T'.heap := by
    intro k q hq
    refine (hb k q hq).kept ?_
    rw [e1]
    refine hk q.1 (hb k q hq).lt (fun hh => ?_)
    rcases hh with ⟨i, e, hi⟩ | hh
    · exact hD.cross hi hq rfl
    · exact absurd (hb k q hq).lt (Nat.not_lt.mpr hh)
  obtain ⟨t2, a1, b1⟩ := kk T'.heap (locs ++ L) (by rw [e1]; exact hp) hb1 (va_D.app (hd.weaken (fun k q _ h => hf q.1 h)) hD.right (fun i j x y hx hy hxy => (outb j y hy).2 (by rw [← hxy]; exact hd.2 i x hx)))
    ⟨Nat.le_trans hS.1 (by rw [e1]; exact hz), fun q h1 h2 => by rw [e1, hk q (Nat.lt_of_lt_of_le h1 hS.1) (fun z => h2 (hf q z))]; exact hS.2.1 q h1 h2, fun q hq => by
      rcases List.mem_append.mp hq with h | h
      · exact hS.2.2 q h
      · exact hf _ (hL q h)⟩ T' rfl X'
  exact ⟨t2, st t2 a1, b1⟩
variable {y : MethodName} {cc cy : ByteArray} {maxL nL n index d : Nat} {ret ret0 : Option FieldType} {own : String} {As : List Value} {b : Nat} {Z : sE} {st1 : List Value}
theorem kVl (hX : CX p s m args meth c cc nL ret0 own) (hM : MWp l y cy maxL ret d E (.ref b :: As) wa rv wa') (B : cV y cy maxL ret n) (hlink : Cond.methodLink own index y ∈ TBL) (hK : wK E s) (ha : wP E wa H) (hb : wP E wb H) (hD : va_D A (wa ++ wb)) (hS : va_S A H0 H locs) (hA : ∀ q : Nat, H0.size ≤ q → A q) {q0 ci : Nat} {q : vw_C} {fs : List Value} (hc : vwCl[ci]? = some q) (hqC : q.1 = y.cls) (hq : wa[q0]? = some (b, .inr (ci, fs))) (hn : As.length = n) (hsz : ls.size = nL) (hst : st0 = As.reverse ++ .ref b :: rest) (hrm : (rest.map fun v => v.category).sum ≤ 8) (hR : roomOk d maxL R) (hcs : cells ≤ R.cells ∧ slots ≤ R.slots) (hdg : decode cc pc = .ok (.invokevirtual index, 3)) (hst1 : rv.toList ++ rest = st1)
    (kk : ∀ (H1 : Heap) (locs1 : List Loc), wP E wa' H1 → wP E wb H1 → va_D A (wa' ++ wb) → va_S A H0 H1 locs1 → W p l e R s m args below meth c H1 locs1 cells slots Q (F0 m (pc + 3) ls st1)) : W p l e R s m args below meth c H locs cells slots Q (F0 m pc ls st0) :=
  contWl (runVl hX (hM H.size) B hlink ⟨blindW, by rw [← hqC]; exact va_recv hK ha hc hq, fun U hU hW => ⟨rfl, by rw [hU], by rw [hU]; exact ha, ⟨va_K.moved hW.alike hK, wN.mv hW hX.2.2.2.2.2.2.2⟩, hD.left.weaken (fun _ _ _ _ => trivial)⟩⟩ hn hsz hst hrm hR hcs hdg) hb hD hS hA (by rw [hst1]; exact kk)
theorem kVls (hX : CX p s m args meth c cc nL ret0 own) (hM : MWs l y cy maxL ret d E Z (.ref b :: As) wa rv wa') (hA1 : wa'.map Prod.fst = wa.map Prod.fst) (B : cV y cy maxL ret n) (hlink : Cond.methodLink own index y ∈ TBL) (hK : wK E s) (hF : SF Z A s H) (ha : wP E wa H) (hb : wP E wb H) (hD : va_D A (wa ++ wb)) (hS : va_S A H0 H locs) (hA : ∀ q : Nat, H0.size ≤ q → A q) {q0 ci : Nat} {q : vw_C} {fs : List Value} (hc : vwCl[ci]? = some q) (hqC : q.1 = y.cls) (hq : wa[q0]? = some (b, .inr (ci, fs))) (hn : As.length = n) (hsz : ls.size = nL) (hst : st0 = As.reverse ++ .ref b :: rest) (hrm : (rest.map fun v => v.category).sum ≤ 8) (hR : roomOk d maxL R) (hcs : cells ≤ R.cells ∧ slots ≤ R.slots) (hdg : decode cc pc = .ok (.invokevirtual index, 3)) (hst1 : rv.toList ++ rest = st1)
    (kk : ∀ (H1 : Heap) (locs1 : List Loc), wP E wa' H1 → wP E wb H1 → va_D A (wa' ++ wb) → va_S A H0 H1 locs1 → W p l e R s m args below meth c H1 locs1 cells slots Q (F0 m (pc + 3) ls st1)) : W p l e R s m args below meth c H locs cells slots Q (F0 m pc ls st0) :=
  contWl (runVl hX (MWs.qp (hM H.size) hA1) B hlink ⟨fun _ _ _ _ q => ⟨q.1, ⟨q.2.1.1, q.2.1.2.1, (wK2.rf q.2.1.2.2.1 rfl), q.2.1.2.2.2⟩, q.2.2.call⟩, by rw [← hqC]; exact va_recv hK ha hc hq, fun U hU hW => ⟨rfl, ⟨by rw [hU], by rw [hU]; exact ha, ⟨va_K.moved hW.alike hK, wN.mv hW hX.2.2.2.2.2.2.2⟩, hD.left.weaken (fun _ _ _ _ => trivial)⟩, by rw [hU]; exact (hF.narrow (freeL hD.left hS hA)).warm hW⟩⟩ hn hsz hst hrm hR hcs hdg) hb hD hS hA (by rw [hst1]; exact kk)
end KLW
abbrev CSt : Type := (Nat → Int32) × (Nat → Int64) × (Nat → Nat → Int32) × (Nat → Nat → Int32) × (Nat → Nat → Nat → Int32) × Bool × (Nat → Nat → Nat)
abbrev MSt : Type := (Nat → Int32) × (Nat → Int64) × (Nat → Nat → Int32)
def spA (ad : Nat → Nat) (b : Bool) : Nat := match b with | false => ad 59 | true => ad 60
def sbA (ad : Nat → Nat) (b : Bool) : Nat := match b with | false => ad 60 | true => ad 59
/- the class: addresses 0 this, 1 town, 2 town_pulls, 3 town_site, 4 town_site_heights, 5 town_site_storeyKinds, 6 town_site_storeyTilts, 7 town_views, 8 town_notes, 9 town_marks, 10 town_past, 11 draft, 12 draft_pulls, 13 draft_site, 14 draft_site_heights, 15 draft_site_storeyKinds, 16 draft_site_storeyTilts, 17 draft_views, 18 draft_notes, 19 draft_marks, 20 draft_past, 21 images, 22 images_0, 23 images_0_pulls, 24 images_0_site, 25 images_0_site_heights, 26 images_0_site_storeyKinds, 27 images_0_site_storeyTilts, 28 images_0_views, 29 images_0_notes, 30 images_0_marks, 31 images_0_past, 32 images_1, 33 images_1_pulls, 34 images_1_site, 35 images_1_site_heights, 36 images_1_site_storeyKinds, 37 images_1_site_storeyTilts, 38 images_1_views, 39 images_1_notes, 40 images_1_marks, 41 images_1_past, 42 text, 43 text_bytes, 44 planner, 45 planner_bestPlots, 46 planner_plots, 47 planner_turnKinds, 48 planner_turnTilts, 49 planner_heights, 50 planner_sets, 51 planner_trial, 52 planner_trial_heights, 53 planner_trial_storeyKinds, 54 planner_trial_storeyTilts, 55 trial, 56 trial_heights, 57 trial_storeyKinds, 58 trial_storeyTilts, 59 spread, 60 spreadBehind, 61 tally
 ints 0 this.imagesKept, 1 this.refusedAsBad, 2 this.refusedAsNo, 3 this.refusedAsFull, 4 town.kind, 5 town.pasts, 6 town.members, 7 town.noteCount, 8 town.markCount, 9 town_site.off, 10 town_site.year, 11 draft.kind, 12 draft.pasts, 13 draft.members, 14 draft.noteCount, 15 draft.markCount, 16 draft_site.off, 17 draft_site.year, 18 images_0.kind, 19 images_0.pasts, 20 images_0.members, 21 images_0.noteCount, 22 images_0.markCount, 23 images_0_site.off, 24 images_0_site.year, 25 images_1.kind, 26 images_1.pasts, 27 images_1.members, 28 images_1.noteCount, 29 images_1.markCount, 30 images_1_site.off, 31 images_1_site.year, 32 text.length, 33 text.token, 34 text.start, 35 text.behind, 36 text.value, 37 planner.turns, 38 planner.best, 39 planner_trial.off, 40 planner_trial.year, 41 trial.off, 42 trial.year
 rows 0 town_pulls, 1 town_site_heights, 2 town_site_storeyKinds, 3 town_site_storeyTilts, 4 town_views, 5 town_notes, 6 town_marks, 7 draft_pulls, 8 draft_site_heights, 9 draft_site_storeyKinds, 10 draft_site_storeyTilts, 11 draft_views, 12 draft_notes, 13 draft_marks, 14 images_0_pulls, 15 images_0_site_heights, 16 images_0_site_storeyKinds, 17 images_0_site_storeyTilts, 18 images_0_views, 19 images_0_notes, 20 images_0_marks, 21 images_1_pulls, 22 images_1_site_heights, 23 images_1_site_storeyKinds, 24 images_1_site_storeyTilts, 25 images_1_views, 26 images_1_notes, 27 images_1_marks, 28 text_bytes, 29 planner_bestPlots, 30 planner_plots, 31 planner_turnKinds, 32 planner_turnTilts, 33 planner_heights, 34 planner_sets, 35 planner_trial_heights, 36 planner_trial_storeyKinds, 37 planner_trial_storeyTilts, 38 trial_heights, 39 trial_storeyKinds, 40 trial_storeyTilts, 41 spread, 42 spreadBehind, 43 tally
 pasts town_past, draft_past, images_0_past, images_1_past -/
def CW (E : wE) (ad : Nat → Nat) (s : CSt) : va_W := ([((ad 0), .inr (4, [.ref (ad 1), .ref (ad 11), .ref (ad 21), .int (s.1 0), .ref (ad 42), .ref (ad 44), .ref (ad 55), .ref (spA ad s.2.2.2.2.2.1), .ref (sbA ad s.2.2.2.2.2.1), .ref (ad 61), .long (s.2.1 0), .long (s.2.1 1), .int (s.1 1), .int (s.1 2), .int (s.1 3)])), ((ad 1), .inr (3, [.int (s.1 4), .ref (ad 2), .ref (ad 3), .ref (ad 10), .int (s.1 5), .ref (ad 7), .int (s.1 6), .ref (ad 8), .int (s.1 7), .ref (ad 9), .int (s.1 8)])), ((ad 2), aI E 6 (s.2.2.1 0)), ((ad 3), .inr (1, [.int (s.1 9), .int (s.1 10), .ref (ad 4), .ref (ad 5), .ref (ad 6)])), ((ad 4), aI E 6 (s.2.2.1 1)), ((ad 5), aI E 30 (s.2.2.1 2)), ((ad 6), aI E 30 (s.2.2.1 3)), ((ad 7), aI E 5 (s.2.2.1 4)), ((ad 8), aI E 24 (s.2.2.1 5)), ((ad 9), aI E 30 (s.2.2.1 6))] ++ (pastW E (ad 10) (s.2.2.2.2.2.2 0) (s.2.2.2.2.2.2 1) (s.2.2.2.2.2.2 2) (s.2.2.2.2.2.2 3) (s.2.2.2.1 0) (s.2.2.2.1 1) (s.2.2.2.2.1 0) (s.2.2.2.2.1 1) (s.2.2.2.2.1 2) ++ ([((ad 11), .inr (3, [.int (s.1 11), .ref (ad 12), .ref (ad 13), .ref (ad 20), .int (s.1 12), .ref (ad 17), .int (s.1 13), .ref (ad 18), .int (s.1 14), .ref (ad 19), .int (s.1 15)])), ((ad 12), aI E 6 (s.2.2.1 7)), ((ad 13), .inr (1, [.int (s.1 16), .int (s.1 17), .ref (ad 14), .ref (ad 15), .ref (ad 16)])), ((ad 14), aI E 6 (s.2.2.1 8)), ((ad 15), aI E 30 (s.2.2.1 9)), ((ad 16), aI E 30 (s.2.2.1 10)), ((ad 17), aI E 5 (s.2.2.1 11)), ((ad 18), aI E 24 (s.2.2.1 12)), ((ad 19), aI E 30 (s.2.2.1 13))] ++ (pastW E (ad 20) (s.2.2.2.2.2.2 4) (s.2.2.2.2.2.2 5) (s.2.2.2.2.2.2 6) (s.2.2.2.2.2.2 7) (s.2.2.2.1 2) (s.2.2.2.1 3) (s.2.2.2.2.1 3) (s.2.2.2.2.1 4) (s.2.2.2.2.1 5) ++ ([((ad 21), aT E 2 (lq [(ad 22), (ad 32)])), ((ad 22), .inr (3, [.int (s.1 18), .ref (ad 23), .ref (ad 24), .ref (ad 31), .int (s.1 19), .ref (ad 28), .int (s.1 20), .ref (ad 29), .int (s.1 21), .ref (ad 30), .int (s.1 22)])), ((ad 23), aI E 6 (s.2.2.1 14)), ((ad 24), .inr (1, [.int (s.1 23), .int (s.1 24), .ref (ad 25), .ref (ad 26), .ref (ad 27)])), ((ad 25), aI E 6 (s.2.2.1 15)), ((ad 26), aI E 30 (s.2.2.1 16)), ((ad 27), aI E 30 (s.2.2.1 17)), ((ad 28), aI E 5 (s.2.2.1 18)), ((ad 29), aI E 24 (s.2.2.1 19)), ((ad 30), aI E 30 (s.2.2.1 20))] ++ (pastW E (ad 31) (s.2.2.2.2.2.2 8) (s.2.2.2.2.2.2 9) (s.2.2.2.2.2.2 10) (s.2.2.2.2.2.2 11) (s.2.2.2.1 4) (s.2.2.2.1 5) (s.2.2.2.2.1 6) (s.2.2.2.2.1 7) (s.2.2.2.2.1 8) ++ ([((ad 32), .inr (3, [.int (s.1 25), .ref (ad 33), .ref (ad 34), .ref (ad 41), .int (s.1 26), .ref (ad 38), .int (s.1 27), .ref (ad 39), .int (s.1 28), .ref (ad 40), .int (s.1 29)])), ((ad 33), aI E 6 (s.2.2.1 21)), ((ad 34), .inr (1, [.int (s.1 30), .int (s.1 31), .ref (ad 35), .ref (ad 36), .ref (ad 37)])), ((ad 35), aI E 6 (s.2.2.1 22)), ((ad 36), aI E 30 (s.2.2.1 23)), ((ad 37), aI E 30 (s.2.2.1 24)), ((ad 38), aI E 5 (s.2.2.1 25)), ((ad 39), aI E 24 (s.2.2.1 26)), ((ad 40), aI E 30 (s.2.2.1 27))] ++ (pastW E (ad 41) (s.2.2.2.2.2.2 12) (s.2.2.2.2.2.2 13) (s.2.2.2.2.2.2 14) (s.2.2.2.2.2.2 15) (s.2.2.2.1 6) (s.2.2.2.1 7) (s.2.2.2.2.1 9) (s.2.2.2.2.1 10) (s.2.2.2.2.1 11) ++ ([((ad 42), .inr (2, [.ref (ad 43), .int (s.1 32), .int (s.1 33), .int (s.1 34), .int (s.1 35), .int (s.1 36)])), ((ad 43), aI E 150 (s.2.2.1 28)), ((ad 44), .inr (0, [.int (s.1 37), .int (s.1 38), .ref (ad 45), .ref (ad 46), .ref (ad 47), .ref (ad 48), .ref (ad 49), .ref (ad 50), .ref (ad 51)])), ((ad 45), aI E 4 (s.2.2.1 29)), ((ad 46), aI E 4 (s.2.2.1 30)), ((ad 47), aI E 4 (s.2.2.1 31)), ((ad 48), aI E 4 (s.2.2.1 32)), ((ad 49), aI E 96 (s.2.2.1 33)), ((ad 50), aI E 6 (s.2.2.1 34)), ((ad 51), .inr (1, [.int (s.1 39), .int (s.1 40), .ref (ad 52), .ref (ad 53), .ref (ad 54)])), ((ad 52), aI E 6 (s.2.2.1 35)), ((ad 53), aI E 30 (s.2.2.1 36)), ((ad 54), aI E 30 (s.2.2.1 37)), ((ad 55), .inr (1, [.int (s.1 41), .int (s.1 42), .ref (ad 56), .ref (ad 57), .ref (ad 58)])), ((ad 56), aI E 6 (s.2.2.1 38)), ((ad 57), aI E 30 (s.2.2.1 39)), ((ad 58), aI E 30 (s.2.2.1 40)), ((ad 59), aI E 19 (s.2.2.1 41)), ((ad 60), aI E 19 (s.2.2.1 42)), ((ad 61), aI E 19 (s.2.2.1 43))])))))))))
/- the model: ints 0 letters, 1 at, 2 start, 3 isWell, 4 faultAt; rows 0 text, 1 town, 2 draft, 3 tried, 4 images, 5 kept, 6 refused, 7 line, 8 best -/
def MWd (E : wE) (md : Nat → Nat) (s : MSt) : va_W := [((md 0), .inr (5, [.ref (md 1), .int (s.1 0), .ref (md 2), .ref (md 3), .ref (md 4), .ref (md 5), .ref (md 6), .ref (md 7), .long (s.2.1 0), .long (s.2.1 1), .ref (md 8), .ref (md 9), .int (s.1 1), .int (s.1 2), .int (s.1 3), .int (s.1 4)])), ((md 1), aI E 150 (s.2.2 0)), ((md 2), aI E 682 (s.2.2 1)), ((md 3), aI E 682 (s.2.2 2)), ((md 4), aI E 682 (s.2.2 3)), ((md 5), aI E 1364 (s.2.2 4)), ((md 6), aZ E 2 (s.2.2 5)), ((md 7), aI E 3 (s.2.2 6)), ((md 8), aI E 4 (s.2.2 7)), ((md 9), aI E 4 (s.2.2 8))]
