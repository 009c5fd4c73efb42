set_option maxHeartbeats 4000000 in
set_option maxRecDepth 100000 in
noncomputable def S7_watch (s : CSt) : Option (Int32 × CSt) := Option.bind (sp_X7_watch (s.1 7) (s.2.2.1 5) (s.2.2.1 43) (s.1 9)) fun z => some (z.1, (s.1, s.2.1, (va_up s.2.2.1 43 z.2), s.2.2.2.1, s.2.2.2.2.1, s.2.2.2.2.2.1, s.2.2.2.2.2.2))
set_option maxHeartbeats 4000000 in
set_option maxRecDepth 100000 in
theorem L7_watch (l : Launch) (E : wE) (ad : Nat → Nat) (s : CSt) (r : Int32) (s' : CSt) (h : S7_watch s = some (r, s')) : MWp l yX7_watch cX7_watch 7 (some .int) 5 E [.ref (ad 0)] (CW E ad s) (some (.int r)) (CW E ad s') := by
  unfold S7_watch at h
  obtain ⟨z, hz, h⟩ := bd_s h
  obtain ⟨rfl, rfl⟩ := Prod.mk.inj (Option.some.inj h)
  exact MWp.lift2 [true, true, false, true, false, false, false, false, true, false, false, false, false, false, false, false, false, false, false, false, false, false, false, false, false, false, false, false, false, false, false, false, false, false, false, false, false, false, false, false, false, false, false, false, false, false, false, false, false, false, false, false, false, false, false, false, false, false, false, false, false, false, false, false, false, false, false, false, false, false, false, false, false, false, false, false, false, false, false, false, false, false, false, false, false, false, false, false, false, false, false, false, false, false, false, false, false, false, false, false, false, false, false, false, false, false, false, false, false, false, false, false, false, false, false, false, false, false, false, false, false, false, false, false, false, false, false, false, false, false, false, false, false, false, false, false, false, false, false, false, false, false, false, false, false, false, false, false, false, false, false, false, false, false, false, false, false, false, false, false, false, false, false, false, false, false, false, false, false, false, false, false, false, false, false, false, false, false, false, false, false, false, false, false, false, false, false, false, false, true] 5 [0, 1, 3, 4, 2] [0, 1, 4, 2, 3] (MWp.ofW (c_X7_watch l E (ad 0) (ad 1) (ad 11) (ad 21) (ad 42) (ad 44) (ad 55) (spA ad s.2.2.2.2.2.1) (sbA ad s.2.2.2.2.2.1) (ad 61) (ad 2) (ad 3) (ad 10) (ad 7) (ad 8) (ad 9) (ad 4) (ad 5) (ad 6) (s.1 0) (s.2.1 0) (s.2.1 1) (s.1 1) (s.1 2) (s.1 3) (s.1 4) (s.1 5) (s.1 6) (s.1 7) (s.1 8) (s.2.2.1 5) (s.2.2.1 43) (s.1 9) (s.1 10) z.1 z.2 hz) rfl) rfl (by decide +kernel) rfl rfl (by decide +kernel) rfl rfl
set_option maxHeartbeats 4000000 in
set_option maxRecDepth 100000 in
noncomputable def S8_watch (s : MSt) : Option (Int32 × MSt) := Option.bind (sp_X8_watch (s.2.2 1)) fun z => some (z, (s.1, s.2.1, s.2.2))
set_option maxHeartbeats 4000000 in
set_option maxRecDepth 100000 in
theorem L8_watch (l : Launch) (E : wE) (md : Nat → Nat) (s : MSt) (r : Int32) (s' : MSt) (h : S8_watch s = some (r, s')) : MWp l yX8_watch cX8_watch 7 (some .int) 3 E [.ref (md 0)] (MWd E md s) (some (.int r)) (MWd E md s') := by
  unfold S8_watch at h
  obtain ⟨z, hz, h⟩ := bd_s h
  obtain ⟨rfl, rfl⟩ := Prod.mk.inj (Option.some.inj h)
  exact MWp.lift [true, false, true] (MWp.ofW (MW.ofR (c_X8_watch l E (md 0) (md 1) (md 2) (md 3) (md 4) (md 5) (md 6) (md 7) (md 8) (md 9) (s.1 0) (s.2.1 0) (s.2.1 1) (s.1 1) (s.1 2) (s.1 3) (s.1 4) (s.2.2 1) z hz)) rfl) rfl rfl rfl
set_option maxHeartbeats 4000000 in
set_option maxRecDepth 100000 in
noncomputable def S7_kinds (p1 : Int32) (s : CSt) : Option (Int32 × CSt) := Option.bind (sp_X7_kinds p1 (s.1 1) (s.1 8) (s.2.2.1 6)) fun z => some (z.1, ((va_up s.1 1 z.2), s.2.1, s.2.2.1, s.2.2.2.1, s.2.2.2.2.1, s.2.2.2.2.2.1, s.2.2.2.2.2.2))
set_option maxHeartbeats 4000000 in
set_option maxRecDepth 100000 in
theorem L7_kinds (l : Launch) (E : wE) (ad : Nat → Nat) (p1 : Int32) (s : CSt) (r : Int32) (s' : CSt) (h : S7_kinds p1 s = some (r, s')) : MWp l yX7_kinds cX7_kinds 4 (some .int) 3 E [.ref (ad 0), .int p1] (CW E ad s) (some (.int r)) (CW E ad s') := by
  unfold S7_kinds at h
  obtain ⟨z, hz, h⟩ := bd_s h
  obtain ⟨rfl, rfl⟩ := Prod.mk.inj (Option.some.inj h)
  exact MWp.lift [true, true, false, false, false, false, false, false, false, true] (MWp.ofW (c_X7_kinds l E (ad 0) (ad 1) (ad 11) (ad 21) (ad 42) (ad 44) (ad 55) (spA ad s.2.2.2.2.2.1) (sbA ad s.2.2.2.2.2.1) (ad 61) (ad 2) (ad 3) (ad 10) (ad 7) (ad 8) (ad 9) p1 (s.1 0) (s.2.1 0) (s.2.1 1) (s.1 1) (s.1 2) (s.1 3) (s.1 4) (s.1 5) (s.1 6) (s.1 7) (s.1 8) (s.2.2.1 6) z.1 z.2 hz) rfl) rfl rfl rfl
set_option maxHeartbeats 4000000 in
set_option maxRecDepth 100000 in
noncomputable def S8_kinds (p1 : Int32) (s : MSt) : Option (Int32 × MSt) := Option.bind (sp_X8_kinds p1 (s.2.2 6) (s.2.2 1)) fun z => some (z.1, (s.1, s.2.1, (va_up s.2.2 6 z.2)))
set_option maxHeartbeats 4000000 in
set_option maxRecDepth 100000 in
theorem L8_kinds (l : Launch) (E : wE) (md : Nat → Nat) (p1 : Int32) (s : MSt) (r : Int32) (s' : MSt) (h : S8_kinds p1 s = some (r, s')) : MWp l yX8_kinds cX8_kinds 2 (some .int) 3 E [.ref (md 0), .int p1] (MWd E md s) (some (.int r)) (MWd E md s') := by
  unfold S8_kinds at h
  obtain ⟨z, hz, h⟩ := bd_s h
  obtain ⟨rfl, rfl⟩ := Prod.mk.inj (Option.some.inj h)
  exact MWp.lift2 [true, false, true, false, false, false, false, true] 3 [0, 2, 1] [0, 2, 1] (MWp.ofW (c_X8_kinds l E (md 0) (md 1) (md 2) (md 3) (md 4) (md 5) (md 6) (md 7) (md 8) (md 9) p1 (s.1 0) (s.2.1 0) (s.2.1 1) (s.1 1) (s.1 2) (s.1 3) (s.1 4) (s.2.2 6) (s.2.2 1) z.1 z.2 hz) rfl) rfl (by decide +kernel) rfl rfl (by decide +kernel) rfl rfl
set_option maxHeartbeats 4000000 in
set_option maxRecDepth 100000 in
noncomputable def S7_tries (p1 : Int32) (s : CSt) : Option (Int32 × CSt) := Option.bind (sp_X7_tries p1 (s.1 1) (s.1 8) (s.2.2.1 6)) fun z => some (z.1, ((va_up s.1 1 z.2), s.2.1, s.2.2.1, s.2.2.2.1, s.2.2.2.2.1, s.2.2.2.2.2.1, s.2.2.2.2.2.2))
set_option maxHeartbeats 4000000 in
set_option maxRecDepth 100000 in
theorem L7_tries (l : Launch) (E : wE) (ad : Nat → Nat) (p1 : Int32) (s : CSt) (r : Int32) (s' : CSt) (h : S7_tries p1 s = some (r, s')) : MWp l yX7_tries cX7_tries 8 (some .int) 4 E [.ref (ad 0), .int p1] (CW E ad s) (some (.int r)) (CW E ad s') := by
  unfold S7_tries at h
  obtain ⟨z, hz, h⟩ := bd_s h
  obtain ⟨rfl, rfl⟩ := Prod.mk.inj (Option.some.inj h)
  exact MWp.lift [true, true, false, false, false, false, false, false, false, true] (MWp.ofW (c_X7_tries l E (ad 0) (ad 1) (ad 11) (ad 21) (ad 42) (ad 44) (ad 55) (spA ad s.2.2.2.2.2.1) (sbA ad s.2.2.2.2.2.1) (ad 61) (ad 2) (ad 3) (ad 10) (ad 7) (ad 8) (ad 9) p1 (s.1 0) (s.2.1 0) (s.2.1 1) (s.1 1) (s.1 2) (s.1 3) (s.1 4) (s.1 5) (s.1 6) (s.1 7) (s.1 8) (s.2.2.1 6) z.1 z.2 hz) rfl) rfl rfl rfl
set_option maxHeartbeats 4000000 in
set_option maxRecDepth 100000 in
noncomputable def S8_tries (p1 : Int32) (s : MSt) : Option (Int32 × MSt) := Option.bind (sp_X8_tries p1 (s.2.2 1) (s.2.2 6)) fun z => some (z.1, (s.1, s.2.1, (va_up s.2.2 6 z.2)))
set_option maxHeartbeats 4000000 in
set_option maxRecDepth 100000 in
theorem L8_tries (l : Launch) (E : wE) (md : Nat → Nat) (p1 : Int32) (s : MSt) (r : Int32) (s' : MSt) (h : S8_tries p1 s = some (r, s')) : MWp l yX8_tries cX8_tries 9 (some .int) 3 E [.ref (md 0), .int p1] (MWd E md s) (some (.int r)) (MWd E md s') := by
  unfold S8_tries at h
  obtain ⟨z, hz, h⟩ := bd_s h
  obtain ⟨rfl, rfl⟩ := Prod.mk.inj (Option.some.inj h)
  exact MWp.lift [true, false, true, false, false, false, false, true] (MWp.ofW (c_X8_tries l E (md 0) (md 1) (md 2) (md 3) (md 4) (md 5) (md 6) (md 7) (md 8) (md 9) p1 (s.1 0) (s.2.1 0) (s.2.1 1) (s.1 1) (s.1 2) (s.1 3) (s.1 4) (s.2.2 1) (s.2.2 6) z.1 z.2 hz) rfl) rfl rfl rfl
set_option maxHeartbeats 4000000 in
set_option maxRecDepth 100000 in
noncomputable def S7_game (s : CSt) : Option (Int32 × CSt) := Option.bind (sp_X7_game (s.1 4) (s.1 9) (s.1 10) (s.2.2.1 0)) fun z => some (z, (s.1, s.2.1, s.2.2.1, s.2.2.2.1, s.2.2.2.2.1, s.2.2.2.2.2.1, s.2.2.2.2.2.2))
set_option maxHeartbeats 4000000 in
set_option maxRecDepth 100000 in
theorem L7_game (l : Launch) (E : wE) (ad : Nat → Nat) (s : CSt) (r : Int32) (s' : CSt) (h : S7_game s = some (r, s')) : MWp l yX7_game cX7_game 5 (some .int) 5 E [.ref (ad 0)] (CW E ad s) (some (.int r)) (CW E ad s') := by
  unfold S7_game at h
  obtain ⟨z, hz, h⟩ := bd_s h
  obtain ⟨rfl, rfl⟩ := Prod.mk.inj (Option.some.inj h)
  exact MWp.lift2 [true, true, true, true] 4 [0, 1, 3, 2] [0, 1, 3, 2] (MWp.ofW (MW.ofR (c_X7_game l E (ad 0) (ad 1) (ad 11) (ad 21) (ad 42) (ad 44) (ad 55) (spA ad s.2.2.2.2.2.1) (sbA ad s.2.2.2.2.2.1) (ad 61) (ad 2) (ad 3) (ad 10) (ad 7) (ad 8) (ad 9) (ad 4) (ad 5) (ad 6) (s.1 0) (s.2.1 0) (s.2.1 1) (s.1 1) (s.1 2) (s.1 3) (s.1 4) (s.1 5) (s.1 6) (s.1 7) (s.1 8) (s.1 9) (s.1 10) (s.2.2.1 0) z hz)) rfl) rfl (by decide +kernel) rfl rfl (by decide +kernel) rfl rfl
set_option maxHeartbeats 4000000 in
set_option maxRecDepth 100000 in
noncomputable def S8_game (s : MSt) : Option (Int32 × MSt) := Option.bind (sp_X8_game (s.2.2 1)) fun z => some (z, (s.1, s.2.1, s.2.2))
set_option maxHeartbeats 4000000 in
set_option maxRecDepth 100000 in
theorem L8_game (l : Launch) (E : wE) (md : Nat → Nat) (s : MSt) (r : Int32) (s' : MSt) (h : S8_game s = some (r, s')) : MWp l yX8_game cX8_game 7 (some .int) 3 E [.ref (md 0)] (MWd E md s) (some (.int r)) (MWd E md s') := by
  unfold S8_game at h
  obtain ⟨z, hz, h⟩ := bd_s h
  obtain ⟨rfl, rfl⟩ := Prod.mk.inj (Option.some.inj h)
  exact MWp.lift [true, false, true] (MWp.ofW (MW.ofR (c_X8_game l E (md 0) (md 1) (md 2) (md 3) (md 4) (md 5) (md 6) (md 7) (md 8) (md 9) (s.1 0) (s.2.1 0) (s.2.1 1) (s.1 1) (s.1 2) (s.1 3) (s.1 4) (s.2.2 1) z hz)) rfl) rfl rfl rfl
set_option maxHeartbeats 4000000 in
set_option maxRecDepth 100000 in
noncomputable def S7_chance_0 (p1 : Int32) (p3 : Int32) (s : CSt) : Option (Int32 × CSt) := match s.2.2.2.2.2.1 with
  | false => Option.bind (sp_X7_chance_0 p1 p3 (s.2.1 0) (s.2.1 1) (s.2.2.1 41) (s.1 9)) fun z => some (z.1, (s.1, (va_up (va_up s.2.1 0 z.2.1) 1 z.2.2.1), (va_up s.2.2.1 41 z.2.2.2), s.2.2.2.1, s.2.2.2.2.1, false, s.2.2.2.2.2.2))
  | true => Option.bind (sp_X7_chance_0 p1 p3 (s.2.1 0) (s.2.1 1) (s.2.2.1 42) (s.1 9)) fun z => some (z.1, (s.1, (va_up (va_up s.2.1 0 z.2.1) 1 z.2.2.1), (va_up s.2.2.1 42 z.2.2.2), s.2.2.2.1, s.2.2.2.2.1, true, s.2.2.2.2.2.2))
set_option maxHeartbeats 4000000 in
set_option maxRecDepth 100000 in
theorem L7_chance_0 (l : Launch) (E : wE) (ad : Nat → Nat) (p1 : Int32) (p3 : Int32) (s : CSt) (r : Int32) (s' : CSt) (h : S7_chance_0 p1 p3 s = some (r, s')) : MWp l yX7_chance cX7_chance 8 (some .int) 5 E [.ref (ad 0), .int p1, .int (0 : Int32), .int p3] (CW E ad s) (some (.int r)) (CW E ad s') := by
  unfold S7_chance_0 at h
  obtain ⟨ci, cl, cf, cp, cq, sw, pa⟩ := s
  cases sw with
  | false =>
    dsimp only at h
    obtain ⟨z, hz, h⟩ := bd_s h
    obtain ⟨rfl, rfl⟩ := Prod.mk.inj (Option.some.inj h)
    exact MWp.lift2 [true, true, false, true, false, false, false, false, false, false, false, false, false, false, false, false, false, false, false, false, false, false, false, false, false, false, false, false, false, false, false, false, false, false, false, false, false, false, false, false, false, false, false, false, false, false, false, false, false, false, false, false, false, false, false, false, false, false, false, false, false, false, false, false, false, false, false, false, false, false, false, false, false, false, false, false, false, false, false, false, false, false, false, false, false, false, false, false, false, false, false, false, false, false, false, false, false, false, false, false, false, false, false, false, false, false, false, false, false, false, false, false, false, false, false, false, false, false, false, false, false, false, false, false, false, false, false, false, false, false, false, false, false, false, false, false, false, false, false, false, false, false, false, false, false, false, false, false, false, false, false, false, false, false, false, false, false, false, false, false, false, false, false, false, false, false, false, false, false, false, false, false, false, false, false, false, false, false, false, false, false, false, false, false, false, false, false, true] 4 [0, 3, 1, 2] [0, 2, 3, 1] (MWp.ofW (c_X7_chance_0 l E (ad 0) (ad 1) (ad 11) (ad 21) (ad 42) (ad 44) (ad 55) (ad 59) (ad 60) (ad 61) (ad 2) (ad 3) (ad 10) (ad 7) (ad 8) (ad 9) (ad 4) (ad 5) (ad 6) p1 p3 (ci 0) (cl 0) (cl 1) (ci 1) (ci 2) (ci 3) (cf 41) (ci 4) (ci 5) (ci 6) (ci 7) (ci 8) (ci 9) (ci 10) z.1 z.2.1 z.2.2.1 z.2.2.2 hz) rfl) rfl (by decide +kernel) rfl rfl (by decide +kernel) rfl rfl
  | true =>
    dsimp only at h
    obtain ⟨z, hz, h⟩ := bd_s h
    obtain ⟨rfl, rfl⟩ := Prod.mk.inj (Option.some.inj h)
    exact MWp.lift2 [true, true, false, true, false, false, false, false, false, false, false, false, false, false, false, false, false, false, false, false, false, false, false, false, false, false, false, false, false, false, false, false, false, false, false, false, false, false, false, false, false, false, false, false, false, false, false, false, false, false, false, false, false, false, false, false, false, false, false, false, false, false, false, false, false, false, false, false, false, false, false, false, false, false, false, false, false, false, false, false, false, false, false, false, false, false, false, false, false, false, false, false, false, false, false, false, false, false, false, false, false, false, false, false, false, false, false, false, false, false, false, false, false, false, false, false, false, false, false, false, false, false, false, false, false, false, false, false, false, false, false, false, false, false, false, false, false, false, false, false, false, false, false, false, false, false, false, false, false, false, false, false, false, false, false, false, false, false, false, false, false, false, false, false, false, false, false, false, false, false, false, false, false, false, false, false, false, false, false, false, false, false, false, false, false, false, false, false, true] 4 [0, 3, 1, 2] [0, 2, 3, 1] (MWp.ofW (c_X7_chance_0 l E (ad 0) (ad 1) (ad 11) (ad 21) (ad 42) (ad 44) (ad 55) (ad 60) (ad 59) (ad 61) (ad 2) (ad 3) (ad 10) (ad 7) (ad 8) (ad 9) (ad 4) (ad 5) (ad 6) p1 p3 (ci 0) (cl 0) (cl 1) (ci 1) (ci 2) (ci 3) (cf 42) (ci 4) (ci 5) (ci 6) (ci 7) (ci 8) (ci 9) (ci 10) z.1 z.2.1 z.2.2.1 z.2.2.2 hz) rfl) rfl (by decide +kernel) rfl rfl (by decide +kernel) rfl rfl
set_option maxHeartbeats 4000000 in
set_option maxRecDepth 100000 in
noncomputable def S7_chance_1 (p1 : Int32) (p3 : Int32) (s : CSt) : Option (Int32 × CSt) := match s.2.2.2.2.2.1 with
  | false => Option.bind (sp_X7_chance_1 p1 p3 (s.2.1 0) (s.2.1 1) (s.2.2.1 41) (s.1 4) (s.1 9) (s.1 10) (s.2.2.1 42) (s.2.2.1 0)) fun z => some (z.1, (s.1, (va_up (va_up s.2.1 0 z.2.1) 1 z.2.2.1), (va_up (va_up s.2.2.1 41 z.2.2.2.1) 42 z.2.2.2.2), s.2.2.2.1, s.2.2.2.2.1, true, s.2.2.2.2.2.2))
  | true => Option.bind (sp_X7_chance_1 p1 p3 (s.2.1 0) (s.2.1 1) (s.2.2.1 42) (s.1 4) (s.1 9) (s.1 10) (s.2.2.1 41) (s.2.2.1 0)) fun z => some (z.1, (s.1, (va_up (va_up s.2.1 0 z.2.1) 1 z.2.2.1), (va_up (va_up s.2.2.1 42 z.2.2.2.1) 41 z.2.2.2.2), s.2.2.2.1, s.2.2.2.2.1, false, s.2.2.2.2.2.2))
set_option maxHeartbeats 4000000 in
set_option maxRecDepth 100000 in
theorem L7_chance_1 (l : Launch) (E : wE) (ad : Nat → Nat) (p1 : Int32) (p3 : Int32) (s : CSt) (r : Int32) (s' : CSt) (h : S7_chance_1 p1 p3 s = some (r, s')) : MWp l yX7_chance cX7_chance 8 (some .int) 5 E [.ref (ad 0), .int p1, .int (1 : Int32), .int p3] (CW E ad s) (some (.int r)) (CW E ad s') := by
  unfold S7_chance_1 at h
  obtain ⟨ci, cl, cf, cp, cq, sw, pa⟩ := s
  cases sw with
  | false =>
    dsimp only at h
    obtain ⟨z, hz, h⟩ := bd_s h
    obtain ⟨rfl, rfl⟩ := Prod.mk.inj (Option.some.inj h)
    exact MWp.lift2 [true, true, true, true, false, false, false, false, false, false, false, false, false, false, false, false, false, false, false, false, false, false, false, false, false, false, false, false, false, false, false, false, false, false, false, false, false, false, false, false, false, false, false, false, false, false, false, false, false, false, false, false, false, false, false, false, false, false, false, false, false, false, false, false, false, false, false, false, false, false, false, false, false, false, false, false, false, false, false, false, false, false, false, false, false, false, false, false, false, false, false, false, false, false, false, false, false, false, false, false, false, false, false, false, false, false, false, false, false, false, false, false, false, false, false, false, false, false, false, false, false, false, false, false, false, false, false, false, false, false, false, false, false, false, false, false, false, false, false, false, false, false, false, false, false, false, false, false, false, false, false, false, false, false, false, false, false, false, false, false, false, false, false, false, false, false, false, false, false, false, false, false, false, false, false, false, false, false, false, false, false, false, false, false, false, false, false, true, true] 6 [0, 4, 1, 3, 5, 2] [0, 2, 5, 3, 1, 4] (MWp.ofW (c_X7_chance_1 l E (ad 0) (ad 1) (ad 11) (ad 21) (ad 42) (ad 44) (ad 55) (ad 59) (ad 60) (ad 61) (ad 2) (ad 3) (ad 10) (ad 7) (ad 8) (ad 9) (ad 4) (ad 5) (ad 6) p1 p3 (ci 0) (cl 0) (cl 1) (ci 1) (ci 2) (ci 3) (cf 41) (ci 4) (ci 5) (ci 6) (ci 7) (ci 8) (ci 9) (ci 10) (cf 42) (cf 0) z.1 z.2.1 z.2.2.1 z.2.2.2.1 z.2.2.2.2 hz) rfl) rfl (by decide +kernel) rfl rfl (by decide +kernel) rfl rfl
  | true =>
    dsimp only at h
    obtain ⟨z, hz, h⟩ := bd_s h
    obtain ⟨rfl, rfl⟩ := Prod.mk.inj (Option.some.inj h)
    exact MWp.lift2 [true, true, true, true, false, false, false, false, false, false, false, false, false, false, false, false, false, false, false, false, false, false, false, false, false, false, false, false, false, false, false, false, false, false, false, false, false, false, false, false, false, false, false, false, false, false, false, false, false, false, false, false, false, false, false, false, false, false, false, false, false, false, false, false, false, false, false, false, false, false, false, false, false, false, false, false, false, false, false, false, false, false, false, false, false, false, false, false, false, false, false, false, false, false, false, false, false, false, false, false, false, false, false, false, false, false, false, false, false, false, false, false, false, false, false, false, false, false, false, false, false, false, false, false, false, false, false, false, false, false, false, false, false, false, false, false, false, false, false, false, false, false, false, false, false, false, false, false, false, false, false, false, false, false, false, false, false, false, false, false, false, false, false, false, false, false, false, false, false, false, false, false, false, false, false, false, false, false, false, false, false, false, false, false, false, false, false, true, true] 6 [0, 5, 1, 3, 4, 2] [0, 2, 5, 3, 4, 1] (MWp.ofW (c_X7_chance_1 l E (ad 0) (ad 1) (ad 11) (ad 21) (ad 42) (ad 44) (ad 55) (ad 60) (ad 59) (ad 61) (ad 2) (ad 3) (ad 10) (ad 7) (ad 8) (ad 9) (ad 4) (ad 5) (ad 6) p1 p3 (ci 0) (cl 0) (cl 1) (ci 1) (ci 2) (ci 3) (cf 42) (ci 4) (ci 5) (ci 6) (ci 7) (ci 8) (ci 9) (ci 10) (cf 41) (cf 0) z.1 z.2.1 z.2.2.1 z.2.2.2.1 z.2.2.2.2 hz) rfl) rfl (by decide +kernel) rfl rfl (by decide +kernel) rfl rfl
set_option maxHeartbeats 4000000 in
set_option maxRecDepth 100000 in
noncomputable def S7_chance_2 (p1 : Int32) (p3 : Int32) (s : CSt) : Option (Int32 × CSt) := match s.2.2.2.2.2.1 with
  | false => Option.bind (sp_X7_chance_2 p1 p3 (s.2.1 0) (s.2.1 1) (s.2.2.1 41) (s.1 4) (s.1 9) (s.1 10) (s.2.2.1 42) (s.2.2.1 0)) fun z => some (z.1, (s.1, (va_up (va_up s.2.1 0 z.2.1) 1 z.2.2.1), (va_up (va_up s.2.2.1 41 z.2.2.2.1) 42 z.2.2.2.2), s.2.2.2.1, s.2.2.2.2.1, false, s.2.2.2.2.2.2))
  | true => Option.bind (sp_X7_chance_2 p1 p3 (s.2.1 0) (s.2.1 1) (s.2.2.1 42) (s.1 4) (s.1 9) (s.1 10) (s.2.2.1 41) (s.2.2.1 0)) fun z => some (z.1, (s.1, (va_up (va_up s.2.1 0 z.2.1) 1 z.2.2.1), (va_up (va_up s.2.2.1 42 z.2.2.2.1) 41 z.2.2.2.2), s.2.2.2.1, s.2.2.2.2.1, true, s.2.2.2.2.2.2))
set_option maxHeartbeats 4000000 in
set_option maxRecDepth 100000 in
theorem L7_chance_2 (l : Launch) (E : wE) (ad : Nat → Nat) (p1 : Int32) (p3 : Int32) (s : CSt) (r : Int32) (s' : CSt) (h : S7_chance_2 p1 p3 s = some (r, s')) : MWp l yX7_chance cX7_chance 8 (some .int) 5 E [.ref (ad 0), .int p1, .int (2 : Int32), .int p3] (CW E ad s) (some (.int r)) (CW E ad s') := by
  unfold S7_chance_2 at h
  obtain ⟨ci, cl, cf, cp, cq, sw, pa⟩ := s
  cases sw with
  | false =>
    dsimp only at h
    obtain ⟨z, hz, h⟩ := bd_s h
    obtain ⟨rfl, rfl⟩ := Prod.mk.inj (Option.some.inj h)
    exact MWp.lift2 [true, true, true, true, false, false, false, false, false, false, false, false, false, false, false, false, false, false, false, false, false, false, false, false, false, false, false, false, false, false, false, false, false, false, false, false, false, false, false, false, false, false, false, false, false, false, false, false, false, false, false, false, false, false, false, false, false, false, false, false, false, false, false, false, false, false, false, false, false, false, false, false, false, false, false, false, false, false, false, false, false, false, false, false, false, false, false, false, false, false, false, false, false, false, false, false, false, false, false, false, false, false, false, false, false, false, false, false, false, false, false, false, false, false, false, false, false, false, false, false, false, false, false, false, false, false, false, false, false, false, false, false, false, false, false, false, false, false, false, false, false, false, false, false, false, false, false, false, false, false, false, false, false, false, false, false, false, false, false, false, false, false, false, false, false, false, false, false, false, false, false, false, false, false, false, false, false, false, false, false, false, false, false, false, false, false, false, true, true] 6 [0, 4, 1, 3, 5, 2] [0, 2, 5, 3, 1, 4] (MWp.ofW (c_X7_chance_2 l E (ad 0) (ad 1) (ad 11) (ad 21) (ad 42) (ad 44) (ad 55) (ad 59) (ad 60) (ad 61) (ad 2) (ad 3) (ad 10) (ad 7) (ad 8) (ad 9) (ad 4) (ad 5) (ad 6) p1 p3 (ci 0) (cl 0) (cl 1) (ci 1) (ci 2) (ci 3) (cf 41) (ci 4) (ci 5) (ci 6) (ci 7) (ci 8) (ci 9) (ci 10) (cf 42) (cf 0) z.1 z.2.1 z.2.2.1 z.2.2.2.1 z.2.2.2.2 hz) rfl) rfl (by decide +kernel) rfl rfl (by decide +kernel) rfl rfl
  | true =>
    dsimp only at h
    obtain ⟨z, hz, h⟩ := bd_s h
    obtain ⟨rfl, rfl⟩ := Prod.mk.inj (Option.some.inj h)
    exact MWp.lift2 [true, true, true, true, false, false, false, false, false, false, false, false, false, false, false, false, false, false, false, false, false, false, false, false, false, false, false, false, false, false, false, false, false, false, false, false, false, false, false, false, false, false, false, false, false, false, false, false, false, false, false, false, false, false, false, false, false, false, false, false, false, false, false, false, false, false, false, false, false, false, false, false, false, false, false, false, false, false, false, false, false, false, false, false, false, false, false, false, false, false, false, false, false, false, false, false, false, false, false, false, false, false, false, false, false, false, false, false, false, false, false, false, false, false, false, false, false, false, false, false, false, false, false, false, false, false, false, false, false, false, false, false, false, false, false, false, false, false, false, false, false, false, false, false, false, false, false, false, false, false, false, false, false, false, false, false, false, false, false, false, false, false, false, false, false, false, false, false, false, false, false, false, false, false, false, false, false, false, false, false, false, false, false, false, false, false, false, true, true] 6 [0, 5, 1, 3, 4, 2] [0, 2, 5, 3, 4, 1] (MWp.ofW (c_X7_chance_2 l E (ad 0) (ad 1) (ad 11) (ad 21) (ad 42) (ad 44) (ad 55) (ad 60) (ad 59) (ad 61) (ad 2) (ad 3) (ad 10) (ad 7) (ad 8) (ad 9) (ad 4) (ad 5) (ad 6) p1 p3 (ci 0) (cl 0) (cl 1) (ci 1) (ci 2) (ci 3) (cf 42) (ci 4) (ci 5) (ci 6) (ci 7) (ci 8) (ci 9) (ci 10) (cf 41) (cf 0) z.1 z.2.1 z.2.2.1 z.2.2.2.1 z.2.2.2.2 hz) rfl) rfl (by decide +kernel) rfl rfl (by decide +kernel) rfl rfl
set_option maxHeartbeats 4000000 in
set_option maxRecDepth 100000 in
noncomputable def S7_chance_3 (p1 : Int32) (p3 : Int32) (s : CSt) : Option (Int32 × CSt) := match s.2.2.2.2.2.1 with
  | false => Option.bind (sp_X7_chance_3 p1 p3 (s.2.1 0) (s.2.1 1) (s.2.2.1 41) (s.1 4) (s.1 9) (s.1 10) (s.2.2.1 42) (s.2.2.1 0)) fun z => some (z.1, (s.1, (va_up (va_up s.2.1 0 z.2.1) 1 z.2.2.1), (va_up (va_up s.2.2.1 41 z.2.2.2.1) 42 z.2.2.2.2), s.2.2.2.1, s.2.2.2.2.1, true, s.2.2.2.2.2.2))
  | true => Option.bind (sp_X7_chance_3 p1 p3 (s.2.1 0) (s.2.1 1) (s.2.2.1 42) (s.1 4) (s.1 9) (s.1 10) (s.2.2.1 41) (s.2.2.1 0)) fun z => some (z.1, (s.1, (va_up (va_up s.2.1 0 z.2.1) 1 z.2.2.1), (va_up (va_up s.2.2.1 42 z.2.2.2.1) 41 z.2.2.2.2), s.2.2.2.1, s.2.2.2.2.1, false, s.2.2.2.2.2.2))
set_option maxHeartbeats 4000000 in
set_option maxRecDepth 100000 in
theorem L7_chance_3 (l : Launch) (E : wE) (ad : Nat → Nat) (p1 : Int32) (p3 : Int32) (s : CSt) (r : Int32) (s' : CSt) (h : S7_chance_3 p1 p3 s = some (r, s')) : MWp l yX7_chance cX7_chance 8 (some .int) 5 E [.ref (ad 0), .int p1, .int (3 : Int32), .int p3] (CW E ad s) (some (.int r)) (CW E ad s') := by
  unfold S7_chance_3 at h
  obtain ⟨ci, cl, cf, cp, cq, sw, pa⟩ := s
  cases sw with
  | false =>
    dsimp only at h
    obtain ⟨z, hz, h⟩ := bd_s h
    obtain ⟨rfl, rfl⟩ := Prod.mk.inj (Option.some.inj h)
    exact MWp.lift2 [true, true, true, true, false, false, false, false, false, false, false, false, false, false, false, false, false, false, false, false, false, false, false, false, false, false, false, false, false, false, false, false, false, false, false, false, false, false, false, false, false, false, false, false, false, false, false, false, false, false, false, false, false, false, false, false, false, false, false, false, false, false, false, false, false, false, false, false, false, false, false, false, false, false, false, false, false, false, false, false, false, false, false, false, false, false, false, false, false, false, false, false, false, false, false, false, false, false, false, false, false, false, false, false, false, false, false, false, false, false, false, false, false, false, false, false, false, false, false, false, false, false, false, false, false, false, false, false, false, false, false, false, false, false, false, false, false, false, false, false, false, false, false, false, false, false, false, false, false, false, false, false, false, false, false, false, false, false, false, false, false, false, false, false, false, false, false, false, false, false, false, false, false, false, false, false, false, false, false, false, false, false, false, false, false, false, false, true, true] 6 [0, 4, 1, 3, 5, 2] [0, 2, 5, 3, 1, 4] (MWp.ofW (c_X7_chance_3 l E (ad 0) (ad 1) (ad 11) (ad 21) (ad 42) (ad 44) (ad 55) (ad 59) (ad 60) (ad 61) (ad 2) (ad 3) (ad 10) (ad 7) (ad 8) (ad 9) (ad 4) (ad 5) (ad 6) p1 p3 (ci 0) (cl 0) (cl 1) (ci 1) (ci 2) (ci 3) (cf 41) (ci 4) (ci 5) (ci 6) (ci 7) (ci 8) (ci 9) (ci 10) (cf 42) (cf 0) z.1 z.2.1 z.2.2.1 z.2.2.2.1 z.2.2.2.2 hz) rfl) rfl (by decide +kernel) rfl rfl (by decide +kernel) rfl rfl
  | true =>
    dsimp only at h
    obtain ⟨z, hz, h⟩ := bd_s h
    obtain ⟨rfl, rfl⟩ := Prod.mk.inj (Option.some.inj h)
    exact MWp.lift2 [true, true, true, true, false, false, false, false, false, false, false, false, false, false, false, false, false, false, false, false, false, false, false, false, false, false, false, false, false, false, false, false, false, false, false, false, false, false, false, false, false, false, false, false, false, false, false, false, false, false, false, false, false, false, false, false, false, false, false, false, false, false, false, false, false, false, false, false, false, false, false, false, false, false, false, false, false, false, false, false, false, false, false, false, false, false, false, false, false, false, false, false, false, false, false, false, false, false, false, false, false, false, false, false, false, false, false, false, false, false, false, false, false, false, false, false, false, false, false, false, false, false, false, false, false, false, false, false, false, false, false, false, false, false, false, false, false, false, false, false, false, false, false, false, false, false, false, false, false, false, false, false, false, false, false, false, false, false, false, false, false, false, false, false, false, false, false, false, false, false, false, false, false, false, false, false, false, false, false, false, false, false, false, false, false, false, false, true, true] 6 [0, 5, 1, 3, 4, 2] [0, 2, 5, 3, 4, 1] (MWp.ofW (c_X7_chance_3 l E (ad 0) (ad 1) (ad 11) (ad 21) (ad 42) (ad 44) (ad 55) (ad 60) (ad 59) (ad 61) (ad 2) (ad 3) (ad 10) (ad 7) (ad 8) (ad 9) (ad 4) (ad 5) (ad 6) p1 p3 (ci 0) (cl 0) (cl 1) (ci 1) (ci 2) (ci 3) (cf 42) (ci 4) (ci 5) (ci 6) (ci 7) (ci 8) (ci 9) (ci 10) (cf 41) (cf 0) z.1 z.2.1 z.2.2.1 z.2.2.2.1 z.2.2.2.2 hz) rfl) rfl (by decide +kernel) rfl rfl (by decide +kernel) rfl rfl
set_option maxHeartbeats 4000000 in
set_option maxRecDepth 100000 in
noncomputable def S7_chance_4 (p1 : Int32) (p3 : Int32) (s : CSt) : Option (Int32 × CSt) := match s.2.2.2.2.2.1 with
  | false => Option.bind (sp_X7_chance_4 p1 p3 (s.2.1 0) (s.2.1 1) (s.2.2.1 41) (s.1 4) (s.1 9) (s.1 10) (s.2.2.1 42) (s.2.2.1 0)) fun z => some (z.1, (s.1, (va_up (va_up s.2.1 0 z.2.1) 1 z.2.2.1), (va_up (va_up s.2.2.1 41 z.2.2.2.1) 42 z.2.2.2.2), s.2.2.2.1, s.2.2.2.2.1, false, s.2.2.2.2.2.2))
  | true => Option.bind (sp_X7_chance_4 p1 p3 (s.2.1 0) (s.2.1 1) (s.2.2.1 42) (s.1 4) (s.1 9) (s.1 10) (s.2.2.1 41) (s.2.2.1 0)) fun z => some (z.1, (s.1, (va_up (va_up s.2.1 0 z.2.1) 1 z.2.2.1), (va_up (va_up s.2.2.1 42 z.2.2.2.1) 41 z.2.2.2.2), s.2.2.2.1, s.2.2.2.2.1, true, s.2.2.2.2.2.2))
set_option maxHeartbeats 4000000 in
set_option maxRecDepth 100000 in
theorem L7_chance_4 (l : Launch) (E : wE) (ad : Nat → Nat) (p1 : Int32) (p3 : Int32) (s : CSt) (r : Int32) (s' : CSt) (h : S7_chance_4 p1 p3 s = some (r, s')) : MWp l yX7_chance cX7_chance 8 (some .int) 5 E [.ref (ad 0), .int p1, .int (4 : Int32), .int p3] (CW E ad s) (some (.int r)) (CW E ad s') := by
  unfold S7_chance_4 at h
  obtain ⟨ci, cl, cf, cp, cq, sw, pa⟩ := s
  cases sw with
  | false =>
    dsimp only at h
    obtain ⟨z, hz, h⟩ := bd_s h
    obtain ⟨rfl, rfl⟩ := Prod.mk.inj (Option.some.inj h)
    exact MWp.lift2 [true, true, true, true, false, false, false, false, false, false, false, false, false, false, false, false, false, false, false, false, false, false, false, false, false, false, false, false, false, false, false, false, false, false, false, false, false, false, false, false, false, false, false, false, false, false, false, false, false, false, false, false, false, false, false, false, false, false, false, false, false, false, false, false, false, false, false, false, false, false, false, false, false, false, false, false, false, false, false, false, false, false, false, false, false, false, false, false, false, false, false, false, false, false, false, false, false, false, false, false, false, false, false, false, false, false, false, false, false, false, false, false, false, false, false, false, false, false, false, false, false, false, false, false, false, false, false, false, false, false, false, false, false, false, false, false, false, false, false, false, false, false, false, false, false, false, false, false, false, false, false, false, false, false, false, false, false, false, false, false, false, false, false, false, false, false, false, false, false, false, false, false, false, false, false, false, false, false, false, false, false, false, false, false, false, false, false, true, true] 6 [0, 4, 1, 3, 5, 2] [0, 2, 5, 3, 1, 4] (MWp.ofW (c_X7_chance_4 l E (ad 0) (ad 1) (ad 11) (ad 21) (ad 42) (ad 44) (ad 55) (ad 59) (ad 60) (ad 61) (ad 2) (ad 3) (ad 10) (ad 7) (ad 8) (ad 9) (ad 4) (ad 5) (ad 6) p1 p3 (ci 0) (cl 0) (cl 1) (ci 1) (ci 2) (ci 3) (cf 41) (ci 4) (ci 5) (ci 6) (ci 7) (ci 8) (ci 9) (ci 10) (cf 42) (cf 0) z.1 z.2.1 z.2.2.1 z.2.2.2.1 z.2.2.2.2 hz) rfl) rfl (by decide +kernel) rfl rfl (by decide +kernel) rfl rfl
  | true =>
    dsimp only at h
    obtain ⟨z, hz, h⟩ := bd_s h
    obtain ⟨rfl, rfl⟩ := Prod.mk.inj (Option.some.inj h)
    exact MWp.lift2 [true, true, true, true, false, false, false, false, false, false, false, false, false, false, false, false, false, false, false, false, false, false, false, false, false, false, false, false, false, false, false, false, false, false, false, false, false, false, false, false, false, false, false, false, false, false, false, false, false, false, false, false, false, false, false, false, false, false, false, false, false, false, false, false, false, false, false, false, false, false, false, false, false, false, false, false, false, false, false, false, false, false, false, false, false, false, false, false, false, false, false, false, false, false, false, false, false, false, false, false, false, false, false, false, false, false, false, false, false, false, false, false, false, false, false, false, false, false, false, false, false, false, false, false, false, false, false, false, false, false, false, false, false, false, false, false, false, false, false, false, false, false, false, false, false, false, false, false, false, false, false, false, false, false, false, false, false, false, false, false, false, false, false, false, false, false, false, false, false, false, false, false, false, false, false, false, false, false, false, false, false, false, false, false, false, false, false, true, true] 6 [0, 5, 1, 3, 4, 2] [0, 2, 5, 3, 4, 1] (MWp.ofW (c_X7_chance_4 l E (ad 0) (ad 1) (ad 11) (ad 21) (ad 42) (ad 44) (ad 55) (ad 60) (ad 59) (ad 61) (ad 2) (ad 3) (ad 10) (ad 7) (ad 8) (ad 9) (ad 4) (ad 5) (ad 6) p1 p3 (ci 0) (cl 0) (cl 1) (ci 1) (ci 2) (ci 3) (cf 42) (ci 4) (ci 5) (ci 6) (ci 7) (ci 8) (ci 9) (ci 10) (cf 41) (cf 0) z.1 z.2.1 z.2.2.1 z.2.2.2.1 z.2.2.2.2 hz) rfl) rfl (by decide +kernel) rfl rfl (by decide +kernel) rfl rfl
set_option maxHeartbeats 4000000 in
set_option maxRecDepth 100000 in
noncomputable def S7_chance_5 (p1 : Int32) (p3 : Int32) (s : CSt) : Option (Int32 × CSt) := match s.2.2.2.2.2.1 with
  | false => Option.bind (sp_X7_chance_5 p1 p3 (s.2.1 0) (s.2.1 1) (s.2.2.1 41) (s.1 4) (s.1 9) (s.1 10) (s.2.2.1 42) (s.2.2.1 0)) fun z => some (z.1, (s.1, (va_up (va_up s.2.1 0 z.2.1) 1 z.2.2.1), (va_up (va_up s.2.2.1 41 z.2.2.2.1) 42 z.2.2.2.2), s.2.2.2.1, s.2.2.2.2.1, true, s.2.2.2.2.2.2))
  | true => Option.bind (sp_X7_chance_5 p1 p3 (s.2.1 0) (s.2.1 1) (s.2.2.1 42) (s.1 4) (s.1 9) (s.1 10) (s.2.2.1 41) (s.2.2.1 0)) fun z => some (z.1, (s.1, (va_up (va_up s.2.1 0 z.2.1) 1 z.2.2.1), (va_up (va_up s.2.2.1 42 z.2.2.2.1) 41 z.2.2.2.2), s.2.2.2.1, s.2.2.2.2.1, false, s.2.2.2.2.2.2))
set_option maxHeartbeats 4000000 in
set_option maxRecDepth 100000 in
theorem L7_chance_5 (l : Launch) (E : wE) (ad : Nat → Nat) (p1 : Int32) (p3 : Int32) (s : CSt) (r : Int32) (s' : CSt) (h : S7_chance_5 p1 p3 s = some (r, s')) : MWp l yX7_chance cX7_chance 8 (some .int) 5 E [.ref (ad 0), .int p1, .int (5 : Int32), .int p3] (CW E ad s) (some (.int r)) (CW E ad s') := by
  unfold S7_chance_5 at h
  obtain ⟨ci, cl, cf, cp, cq, sw, pa⟩ := s
  cases sw with
  | false =>
    dsimp only at h
    obtain ⟨z, hz, h⟩ := bd_s h
    obtain ⟨rfl, rfl⟩ := Prod.mk.inj (Option.some.inj h)
    exact MWp.lift2 [true, true, true, true, false, false, false, false, false, false, false, false, false, false, false, false, false, false, false, false, false, false, false, false, false, false, false, false, false, false, false, false, false, false, false, false, false, false, false, false, false, false, false, false, false, false, false, false, false, false, false, false, false, false, false, false, false, false, false, false, false, false, false, false, false, false, false, false, false, false, false, false, false, false, false, false, false, false, false, false, false, false, false, false, false, false, false, false, false, false, false, false, false, false, false, false, false, false, false, false, false, false, false, false, false, false, false, false, false, false, false, false, false, false, false, false, false, false, false, false, false, false, false, false, false, false, false, false, false, false, false, false, false, false, false, false, false, false, false, false, false, false, false, false, false, false, false, false, false, false, false, false, false, false, false, false, false, false, false, false, false, false, false, false, false, false, false, false, false, false, false, false, false, false, false, false, false, false, false, false, false, false, false, false, false, false, false, true, true] 6 [0, 4, 1, 3, 5, 2] [0, 2, 5, 3, 1, 4] (MWp.ofW (c_X7_chance_5 l E (ad 0) (ad 1) (ad 11) (ad 21) (ad 42) (ad 44) (ad 55) (ad 59) (ad 60) (ad 61) (ad 2) (ad 3) (ad 10) (ad 7) (ad 8) (ad 9) (ad 4) (ad 5) (ad 6) p1 p3 (ci 0) (cl 0) (cl 1) (ci 1) (ci 2) (ci 3) (cf 41) (ci 4) (ci 5) (ci 6) (ci 7) (ci 8) (ci 9) (ci 10) (cf 42) (cf 0) z.1 z.2.1 z.2.2.1 z.2.2.2.1 z.2.2.2.2 hz) rfl) rfl (by decide +kernel) rfl rfl (by decide +kernel) rfl rfl
  | true =>
    dsimp only at h
    obtain ⟨z, hz, h⟩ := bd_s h
    obtain ⟨rfl, rfl⟩ := Prod.mk.inj (Option.some.inj h)
    exact MWp.lift2 [true, true, true, true, false, false, false, false, false, false, false, false, false, false, false, false, false, false, false, false, false, false, false, false, false, false, false, false, false, false, false, false, false, false, false, false, false, false, false, false, false, false, false, false, false, false, false, false, false, false, false, false, false, false, false, false, false, false, false, false, false, false, false, false, false, false, false, false, false, false, false, false, false, false, false, false, false, false, false, false, false, false, false, false, false, false, false, false, false, false, false, false, false, false, false, false, false, false, false, false, false, false, false, false, false, false, false, false, false, false, false, false, false, false, false, false, false, false, false, false, false, false, false, false, false, false, false, false, false, false, false, false, false, false, false, false, false, false, false, false, false, false, false, false, false, false, false, false, false, false, false, false, false, false, false, false, false, false, false, false, false, false, false, false, false, false, false, false, false, false, false, false, false, false, false, false, false, false, false, false, false, false, false, false, false, false, false, true, true] 6 [0, 5, 1, 3, 4, 2] [0, 2, 5, 3, 4, 1] (MWp.ofW (c_X7_chance_5 l E (ad 0) (ad 1) (ad 11) (ad 21) (ad 42) (ad 44) (ad 55) (ad 60) (ad 59) (ad 61) (ad 2) (ad 3) (ad 10) (ad 7) (ad 8) (ad 9) (ad 4) (ad 5) (ad 6) p1 p3 (ci 0) (cl 0) (cl 1) (ci 1) (ci 2) (ci 3) (cf 42) (ci 4) (ci 5) (ci 6) (ci 7) (ci 8) (ci 9) (ci 10) (cf 41) (cf 0) z.1 z.2.1 z.2.2.1 z.2.2.2.1 z.2.2.2.2 hz) rfl) rfl (by decide +kernel) rfl rfl (by decide +kernel) rfl rfl
set_option maxHeartbeats 4000000 in
set_option maxRecDepth 100000 in
noncomputable def S7_chance_6 (p1 : Int32) (p3 : Int32) (s : CSt) : Option (Int32 × CSt) := match s.2.2.2.2.2.1 with
  | false => Option.bind (sp_X7_chance_6 p1 p3 (s.2.1 0) (s.2.1 1) (s.2.2.1 41) (s.1 4) (s.1 9) (s.1 10) (s.2.2.1 42) (s.2.2.1 0)) fun z => some (z.1, (s.1, (va_up (va_up s.2.1 0 z.2.1) 1 z.2.2.1), (va_up (va_up s.2.2.1 41 z.2.2.2.1) 42 z.2.2.2.2), s.2.2.2.1, s.2.2.2.2.1, false, s.2.2.2.2.2.2))
  | true => Option.bind (sp_X7_chance_6 p1 p3 (s.2.1 0) (s.2.1 1) (s.2.2.1 42) (s.1 4) (s.1 9) (s.1 10) (s.2.2.1 41) (s.2.2.1 0)) fun z => some (z.1, (s.1, (va_up (va_up s.2.1 0 z.2.1) 1 z.2.2.1), (va_up (va_up s.2.2.1 42 z.2.2.2.1) 41 z.2.2.2.2), s.2.2.2.1, s.2.2.2.2.1, true, s.2.2.2.2.2.2))
set_option maxHeartbeats 4000000 in
set_option maxRecDepth 100000 in
theorem L7_chance_6 (l : Launch) (E : wE) (ad : Nat → Nat) (p1 : Int32) (p3 : Int32) (s : CSt) (r : Int32) (s' : CSt) (h : S7_chance_6 p1 p3 s = some (r, s')) : MWp l yX7_chance cX7_chance 8 (some .int) 5 E [.ref (ad 0), .int p1, .int (6 : Int32), .int p3] (CW E ad s) (some (.int r)) (CW E ad s') := by
  unfold S7_chance_6 at h
  obtain ⟨ci, cl, cf, cp, cq, sw, pa⟩ := s
  cases sw with
  | false =>
    dsimp only at h
    obtain ⟨z, hz, h⟩ := bd_s h
    obtain ⟨rfl, rfl⟩ := Prod.mk.inj (Option.some.inj h)
    exact MWp.lift2 [true, true, true, true, false, false, false, false, false, false, false, false, false, false, false, false, false, false, false, false, false, false, false, false, false, false, false, false, false, false, false, false, false, false, false, false, false, false, false, false, false, false, false, false, false, false, false, false, false, false, false, false, false, false, false, false, false, false, false, false, false, false, false, false, false, false, false, false, false, false, false, false, false, false, false, false, false, false, false, false, false, false, false, false, false, false, false, false, false, false, false, false, false, false, false, false, false, false, false, false, false, false, false, false, false, false, false, false, false, false, false, false, false, false, false, false, false, false, false, false, false, false, false, false, false, false, false, false, false, false, false, false, false, false, false, false, false, false, false, false, false, false, false, false, false, false, false, false, false, false, false, false, false, false, false, false, false, false, false, false, false, false, false, false, false, false, false, false, false, false, false, false, false, false, false, false, false, false, false, false, false, false, false, false, false, false, false, true, true] 6 [0, 4, 1, 3, 5, 2] [0, 2, 5, 3, 1, 4] (MWp.ofW (c_X7_chance_6 l E (ad 0) (ad 1) (ad 11) (ad 21) (ad 42) (ad 44) (ad 55) (ad 59) (ad 60) (ad 61) (ad 2) (ad 3) (ad 10) (ad 7) (ad 8) (ad 9) (ad 4) (ad 5) (ad 6) p1 p3 (ci 0) (cl 0) (cl 1) (ci 1) (ci 2) (ci 3) (cf 41) (ci 4) (ci 5) (ci 6) (ci 7) (ci 8) (ci 9) (ci 10) (cf 42) (cf 0) z.1 z.2.1 z.2.2.1 z.2.2.2.1 z.2.2.2.2 hz) rfl) rfl (by decide +kernel) rfl rfl (by decide +kernel) rfl rfl
  | true =>
    dsimp only at h
    obtain ⟨z, hz, h⟩ := bd_s h
    obtain ⟨rfl, rfl⟩ := Prod.mk.inj (Option.some.inj h)
    exact MWp.lift2 [true, true, true, true, false, false, false, false, false, false, false, false, false, false, false, false, false, false, false, false, false, false, false, false, false, false, false, false, false, false, false, false, false, false, false, false, false, false, false, false, false, false, false, false, false, false, false, false, false, false, false, false, false, false, false, false, false, false, false, false, false, false, false, false, false, false, false, false, false, false, false, false, false, false, false, false, false, false, false, false, false, false, false, false, false, false, false, false, false, false, false, false, false, false, false, false, false, false, false, false, false, false, false, false, false, false, false, false, false, false, false, false, false, false, false, false, false, false, false, false, false, false, false, false, false, false, false, false, false, false, false, false, false, false, false, false, false, false, false, false, false, false, false, false, false, false, false, false, false, false, false, false, false, false, false, false, false, false, false, false, false, false, false, false, false, false, false, false, false, false, false, false, false, false, false, false, false, false, false, false, false, false, false, false, false, false, false, true, true] 6 [0, 5, 1, 3, 4, 2] [0, 2, 5, 3, 4, 1] (MWp.ofW (c_X7_chance_6 l E (ad 0) (ad 1) (ad 11) (ad 21) (ad 42) (ad 44) (ad 55) (ad 60) (ad 59) (ad 61) (ad 2) (ad 3) (ad 10) (ad 7) (ad 8) (ad 9) (ad 4) (ad 5) (ad 6) p1 p3 (ci 0) (cl 0) (cl 1) (ci 1) (ci 2) (ci 3) (cf 42) (ci 4) (ci 5) (ci 6) (ci 7) (ci 8) (ci 9) (ci 10) (cf 41) (cf 0) z.1 z.2.1 z.2.2.1 z.2.2.2.1 z.2.2.2.2 hz) rfl) rfl (by decide +kernel) rfl rfl (by decide +kernel) rfl rfl
set_option maxHeartbeats 4000000 in
set_option maxRecDepth 100000 in
noncomputable def S7_chance_7 (p1 : Int32) (p3 : Int32) (s : CSt) : Option (Int32 × CSt) := match s.2.2.2.2.2.1 with
  | false => Option.bind (sp_X7_chance_7 p1 p3 (s.2.1 0) (s.2.1 1) (s.2.2.1 41) (s.1 4) (s.1 9) (s.1 10) (s.2.2.1 42) (s.2.2.1 0)) fun z => some (z.1, (s.1, (va_up (va_up s.2.1 0 z.2.1) 1 z.2.2.1), (va_up (va_up s.2.2.1 41 z.2.2.2.1) 42 z.2.2.2.2), s.2.2.2.1, s.2.2.2.2.1, true, s.2.2.2.2.2.2))
  | true => Option.bind (sp_X7_chance_7 p1 p3 (s.2.1 0) (s.2.1 1) (s.2.2.1 42) (s.1 4) (s.1 9) (s.1 10) (s.2.2.1 41) (s.2.2.1 0)) fun z => some (z.1, (s.1, (va_up (va_up s.2.1 0 z.2.1) 1 z.2.2.1), (va_up (va_up s.2.2.1 42 z.2.2.2.1) 41 z.2.2.2.2), s.2.2.2.1, s.2.2.2.2.1, false, s.2.2.2.2.2.2))
set_option maxHeartbeats 4000000 in
set_option maxRecDepth 100000 in
theorem L7_chance_7 (l : Launch) (E : wE) (ad : Nat → Nat) (p1 : Int32) (p3 : Int32) (s : CSt) (r : Int32) (s' : CSt) (h : S7_chance_7 p1 p3 s = some (r, s')) : MWp l yX7_chance cX7_chance 8 (some .int) 5 E [.ref (ad 0), .int p1, .int (7 : Int32), .int p3] (CW E ad s) (some (.int r)) (CW E ad s') := by
  unfold S7_chance_7 at h
  obtain ⟨ci, cl, cf, cp, cq, sw, pa⟩ := s
  cases sw with
  | false =>
    dsimp only at h
    obtain ⟨z, hz, h⟩ := bd_s h
    obtain ⟨rfl, rfl⟩ := Prod.mk.inj (Option.some.inj h)
    exact MWp.lift2 [true, true, true, true, false, false, false, false, false, false, false, false, false, false, false, false, false, false, false, false, false, false, false, false, false, false, false, false, false, false, false, false, false, false, false, false, false, false, false, false, false, false, false, false, false, false, false, false, false, false, false, false, false, false, false, false, false, false, false, false, false, false, false, false, false, false, false, false, false, false, false, false, false, false, false, false, false, false, false, false, false, false, false, false, false, false, false, false, false, false, false, false, false, false, false, false, false, false, false, false, false, false, false, false, false, false, false, false, false, false, false, false, false, false, false, false, false, false, false, false, false, false, false, false, false, false, false, false, false, false, false, false, false, false, false, false, false, false, false, false, false, false, false, false, false, false, false, false, false, false, false, false, false, false, false, false, false, false, false, false, false, false, false, false, false, false, false, false, false, false, false, false, false, false, false, false, false, false, false, false, false, false, false, false, false, false, false, true, true] 6 [0, 4, 1, 3, 5, 2] [0, 2, 5, 3, 1, 4] (MWp.ofW (c_X7_chance_7 l E (ad 0) (ad 1) (ad 11) (ad 21) (ad 42) (ad 44) (ad 55) (ad 59) (ad 60) (ad 61) (ad 2) (ad 3) (ad 10) (ad 7) (ad 8) (ad 9) (ad 4) (ad 5) (ad 6) p1 p3 (ci 0) (cl 0) (cl 1) (ci 1) (ci 2) (ci 3) (cf 41) (ci 4) (ci 5) (ci 6) (ci 7) (ci 8) (ci 9) (ci 10) (cf 42) (cf 0) z.1 z.2.1 z.2.2.1 z.2.2.2.1 z.2.2.2.2 hz) rfl) rfl (by decide +kernel) rfl rfl (by decide +kernel) rfl rfl
  | true =>
    dsimp only at h
    obtain ⟨z, hz, h⟩ := bd_s h
    obtain ⟨rfl, rfl⟩ := Prod.mk.inj (Option.some.inj h)
    exact MWp.lift2 [true, true, true, true, false, false, false, false, false, false, false, false, false, false, false, false, false, false, false, false, false, false, false, false, false, false, false, false, false, false, false, false, false, false, false, false, false, false, false, false, false, false, false, false, false, false, false, false, false, false, false, false, false, false, false, false, false, false, false, false, false, false, false, false, false, false, false, false, false, false, false, false, false, false, false, false, false, false, false, false, false, false, false, false, false, false, false, false, false, false, false, false, false, false, false, false, false, false, false, false, false, false, false, false, false, false, false, false, false, false, false, false, false, false, false, false, false, false, false, false, false, false, false, false, false, false, false, false, false, false, false, false, false, false, false, false, false, false, false, false, false, false, false, false, false, false, false, false, false, false, false, false, false, false, false, false, false, false, false, false, false, false, false, false, false, false, false, false, false, false, false, false, false, false, false, false, false, false, false, false, false, false, false, false, false, false, false, true, true] 6 [0, 5, 1, 3, 4, 2] [0, 2, 5, 3, 4, 1] (MWp.ofW (c_X7_chance_7 l E (ad 0) (ad 1) (ad 11) (ad 21) (ad 42) (ad 44) (ad 55) (ad 60) (ad 59) (ad 61) (ad 2) (ad 3) (ad 10) (ad 7) (ad 8) (ad 9) (ad 4) (ad 5) (ad 6) p1 p3 (ci 0) (cl 0) (cl 1) (ci 1) (ci 2) (ci 3) (cf 42) (ci 4) (ci 5) (ci 6) (ci 7) (ci 8) (ci 9) (ci 10) (cf 41) (cf 0) z.1 z.2.1 z.2.2.1 z.2.2.2.1 z.2.2.2.2 hz) rfl) rfl (by decide +kernel) rfl rfl (by decide +kernel) rfl rfl
set_option maxHeartbeats 4000000 in
set_option maxRecDepth 100000 in
noncomputable def S7_chance_8 (p1 : Int32) (p3 : Int32) (s : CSt) : Option (Int32 × CSt) := match s.2.2.2.2.2.1 with
  | false => Option.bind (sp_X7_chance_8 p1 p3 (s.2.1 0) (s.2.1 1) (s.2.2.1 41) (s.1 4) (s.1 9) (s.1 10) (s.2.2.1 42) (s.2.2.1 0)) fun z => some (z.1, (s.1, (va_up (va_up s.2.1 0 z.2.1) 1 z.2.2.1), (va_up (va_up s.2.2.1 41 z.2.2.2.1) 42 z.2.2.2.2), s.2.2.2.1, s.2.2.2.2.1, false, s.2.2.2.2.2.2))
  | true => Option.bind (sp_X7_chance_8 p1 p3 (s.2.1 0) (s.2.1 1) (s.2.2.1 42) (s.1 4) (s.1 9) (s.1 10) (s.2.2.1 41) (s.2.2.1 0)) fun z => some (z.1, (s.1, (va_up (va_up s.2.1 0 z.2.1) 1 z.2.2.1), (va_up (va_up s.2.2.1 42 z.2.2.2.1) 41 z.2.2.2.2), s.2.2.2.1, s.2.2.2.2.1, true, s.2.2.2.2.2.2))
set_option maxHeartbeats 4000000 in
set_option maxRecDepth 100000 in
theorem L7_chance_8 (l : Launch) (E : wE) (ad : Nat → Nat) (p1 : Int32) (p3 : Int32) (s : CSt) (r : Int32) (s' : CSt) (h : S7_chance_8 p1 p3 s = some (r, s')) : MWp l yX7_chance cX7_chance 8 (some .int) 5 E [.ref (ad 0), .int p1, .int (8 : Int32), .int p3] (CW E ad s) (some (.int r)) (CW E ad s') := by
  unfold S7_chance_8 at h
  obtain ⟨ci, cl, cf, cp, cq, sw, pa⟩ := s
  cases sw with
  | false =>
    dsimp only at h
    obtain ⟨z, hz, h⟩ := bd_s h
    obtain ⟨rfl, rfl⟩ := Prod.mk.inj (Option.some.inj h)
    exact MWp.lift2 [true, true, true, true, false, false, false, false, false, false, false, false, false, false, false, false, false, false, false, false, false, false, false, false, false, false, false, false, false, false, false, false, false, false, false, false, false, false, false, false, false, false, false, false, false, false, false, false, false, false, false, false, false, false, false, false, false, false, false, false, false, false, false, false, false, false, false, false, false, false, false, false, false, false, false, false, false, false, false, false, false, false, false, false, false, false, false, false, false, false, false, false, false, false, false, false, false, false, false, false, false, false, false, false, false, false, false, false, false, false, false, false, false, false, false, false, false, false, false, false, false, false, false, false, false, false, false, false, false, false, false, false, false, false, false, false, false, false, false, false, false, false, false, false, false, false, false, false, false, false, false, false, false, false, false, false, false, false, false, false, false, false, false, false, false, false, false, false, false, false, false, false, false, false, false, false, false, false, false, false, false, false, false, false, false, false, false, true, true] 6 [0, 4, 1, 3, 5, 2] [0, 2, 5, 3, 1, 4] (MWp.ofW (c_X7_chance_8 l E (ad 0) (ad 1) (ad 11) (ad 21) (ad 42) (ad 44) (ad 55) (ad 59) (ad 60) (ad 61) (ad 2) (ad 3) (ad 10) (ad 7) (ad 8) (ad 9) (ad 4) (ad 5) (ad 6) p1 p3 (ci 0) (cl 0) (cl 1) (ci 1) (ci 2) (ci 3) (cf 41) (ci 4) (ci 5) (ci 6) (ci 7) (ci 8) (ci 9) (ci 10) (cf 42) (cf 0) z.1 z.2.1 z.2.2.1 z.2.2.2.1 z.2.2.2.2 hz) rfl) rfl (by decide +kernel) rfl rfl (by decide +kernel) rfl rfl
  | true =>
    dsimp only at h
    obtain ⟨z, hz, h⟩ := bd_s h
    obtain ⟨rfl, rfl⟩ := Prod.mk.inj (Option.some.inj h)
    exact MWp.lift2 [true, true, true, true, false, false, false, false, false, false, false, false, false, false, false, false, false, false, false, false, false, false, false, false, false, false, false, false, false, false, false, false, false, false, false, false, false, false, false, false, false, false, false, false, false, false, false, false, false, false, false, false, false, false, false, false, false, false, false, false, false, false, false, false, false, false, false, false, false, false, false, false, false, false, false, false, false, false, false, false, false, false, false, false, false, false, false, false, false, false, false, false, false, false, false, false, false, false, false, false, false, false, false, false, false, false, false, false, false, false, false, false, false, false, false, false, false, false, false, false, false, false, false, false, false, false, false, false, false, false, false, false, false, false, false, false, false, false, false, false, false, false, false, false, false, false, false, false, false, false, false, false, false, false, false, false, false, false, false, false, false, false, false, false, false, false, false, false, false, false, false, false, false, false, false, false, false, false, false, false, false, false, false, false, false, false, false, true, true] 6 [0, 5, 1, 3, 4, 2] [0, 2, 5, 3, 4, 1] (MWp.ofW (c_X7_chance_8 l E (ad 0) (ad 1) (ad 11) (ad 21) (ad 42) (ad 44) (ad 55) (ad 60) (ad 59) (ad 61) (ad 2) (ad 3) (ad 10) (ad 7) (ad 8) (ad 9) (ad 4) (ad 5) (ad 6) p1 p3 (ci 0) (cl 0) (cl 1) (ci 1) (ci 2) (ci 3) (cf 42) (ci 4) (ci 5) (ci 6) (ci 7) (ci 8) (ci 9) (ci 10) (cf 41) (cf 0) z.1 z.2.1 z.2.2.1 z.2.2.2.1 z.2.2.2.2 hz) rfl) rfl (by decide +kernel) rfl rfl (by decide +kernel) rfl rfl
set_option maxHeartbeats 4000000 in
set_option maxRecDepth 100000 in
noncomputable def S7_chance_bad (p1 : Int32) (p2 : Int32) (p3 : Int32) (s : CSt) : Option (Int32 × CSt) := match s.2.2.2.2.2.1 with
  | false => Option.bind (sp_X7_chance_bad p1 p2 p3 (s.1 1) (s.2.2.1 41) (s.1 9)) fun z => some (z.1, ((va_up s.1 1 z.2), s.2.1, s.2.2.1, s.2.2.2.1, s.2.2.2.2.1, false, s.2.2.2.2.2.2))
  | true => Option.bind (sp_X7_chance_bad p1 p2 p3 (s.1 1) (s.2.2.1 42) (s.1 9)) fun z => some (z.1, ((va_up s.1 1 z.2), s.2.1, s.2.2.1, s.2.2.2.1, s.2.2.2.2.1, true, s.2.2.2.2.2.2))
set_option maxHeartbeats 4000000 in
set_option maxRecDepth 100000 in
theorem L7_chance_bad (l : Launch) (E : wE) (ad : Nat → Nat) (p1 : Int32) (p2 : Int32) (p3 : Int32) (s : CSt) (r : Int32) (s' : CSt) (h : S7_chance_bad p1 p2 p3 s = some (r, s')) : MWp l yX7_chance cX7_chance 8 (some .int) 5 E [.ref (ad 0), .int p1, .int p2, .int p3] (CW E ad s) (some (.int r)) (CW E ad s') := by
  unfold S7_chance_bad at h
  obtain ⟨ci, cl, cf, cp, cq, sw, pa⟩ := s
  cases sw with
  | false =>
    dsimp only at h
    obtain ⟨z, hz, h⟩ := bd_s h
    obtain ⟨rfl, rfl⟩ := Prod.mk.inj (Option.some.inj h)
    exact MWp.lift2 [true, true, false, true, false, false, false, false, false, false, false, false, false, false, false, false, false, false, false, false, false, false, false, false, false, false, false, false, false, false, false, false, false, false, false, false, false, false, false, false, false, false, false, false, false, false, false, false, false, false, false, false, false, false, false, false, false, false, false, false, false, false, false, false, false, false, false, false, false, false, false, false, false, false, false, false, false, false, false, false, false, false, false, false, false, false, false, false, false, false, false, false, false, false, false, false, false, false, false, false, false, false, false, false, false, false, false, false, false, false, false, false, false, false, false, false, false, false, false, false, false, false, false, false, false, false, false, false, false, false, false, false, false, false, false, false, false, false, false, false, false, false, false, false, false, false, false, false, false, false, false, false, false, false, false, false, false, false, false, false, false, false, false, false, false, false, false, false, false, false, false, false, false, false, false, false, false, false, false, false, false, false, false, false, false, false, false, true] 4 [0, 3, 1, 2] [0, 2, 3, 1] (MWp.ofW (c_X7_chance_bad l E (ad 0) (ad 1) (ad 11) (ad 21) (ad 42) (ad 44) (ad 55) (ad 59) (ad 60) (ad 61) (ad 2) (ad 3) (ad 10) (ad 7) (ad 8) (ad 9) (ad 4) (ad 5) (ad 6) p1 p2 p3 (ci 0) (cl 0) (cl 1) (ci 1) (ci 2) (ci 3) (cf 41) (ci 4) (ci 5) (ci 6) (ci 7) (ci 8) (ci 9) (ci 10) z.1 z.2 hz) rfl) rfl (by decide +kernel) rfl rfl (by decide +kernel) rfl rfl
  | true =>
    dsimp only at h
    obtain ⟨z, hz, h⟩ := bd_s h
    obtain ⟨rfl, rfl⟩ := Prod.mk.inj (Option.some.inj h)
    exact MWp.lift2 [true, true, false, true, false, false, false, false, false, false, false, false, false, false, false, false, false, false, false, false, false, false, false, false, false, false, false, false, false, false, false, false, false, false, false, false, false, false, false, false, false, false, false, false, false, false, false, false, false, false, false, false, false, false, false, false, false, false, false, false, false, false, false, false, false, false, false, false, false, false, false, false, false, false, false, false, false, false, false, false, false, false, false, false, false, false, false, false, false, false, false, false, false, false, false, false, false, false, false, false, false, false, false, false, false, false, false, false, false, false, false, false, false, false, false, false, false, false, false, false, false, false, false, false, false, false, false, false, false, false, false, false, false, false, false, false, false, false, false, false, false, false, false, false, false, false, false, false, false, false, false, false, false, false, false, false, false, false, false, false, false, false, false, false, false, false, false, false, false, false, false, false, false, false, false, false, false, false, false, false, false, false, false, false, false, false, false, false, true] 4 [0, 3, 1, 2] [0, 2, 3, 1] (MWp.ofW (c_X7_chance_bad l E (ad 0) (ad 1) (ad 11) (ad 21) (ad 42) (ad 44) (ad 55) (ad 60) (ad 59) (ad 61) (ad 2) (ad 3) (ad 10) (ad 7) (ad 8) (ad 9) (ad 4) (ad 5) (ad 6) p1 p2 p3 (ci 0) (cl 0) (cl 1) (ci 1) (ci 2) (ci 3) (cf 42) (ci 4) (ci 5) (ci 6) (ci 7) (ci 8) (ci 9) (ci 10) z.1 z.2 hz) rfl) rfl (by decide +kernel) rfl rfl (by decide +kernel) rfl rfl
noncomputable def S7_chance_ok (p1 : Int32) (p2 : Int32) (p3 : Int32) (s : CSt) : Option (Int32 × CSt) := if p2 = (0 : Int32) then S7_chance_0 p1 p3 s else if p2 = (1 : Int32) then S7_chance_1 p1 p3 s else if p2 = (2 : Int32) then S7_chance_2 p1 p3 s else if p2 = (3 : Int32) then S7_chance_3 p1 p3 s else if p2 = (4 : Int32) then S7_chance_4 p1 p3 s else if p2 = (5 : Int32) then S7_chance_5 p1 p3 s else if p2 = (6 : Int32) then S7_chance_6 p1 p3 s else if p2 = (7 : Int32) then S7_chance_7 p1 p3 s else if p2 = (8 : Int32) then S7_chance_8 p1 p3 s else none
noncomputable def S7_chance (p1 : Int32) (p2 : Int32) (p3 : Int32) (s : CSt) : Option (Int32 × CSt) := match S7_chance_bad p1 p2 p3 s with
  | some z => some z
  | none => S7_chance_ok p1 p2 p3 s
theorem L7_chance (l : Launch) (E : wE) (ad : Nat → Nat) (p1 : Int32) (p2 : Int32) (p3 : Int32) (s : CSt) (r : Int32) (s' : CSt) (h : S7_chance p1 p2 p3 s = some (r, s')) : MWp l yX7_chance cX7_chance 8 (some .int) 5 E [.ref (ad 0), .int p1, .int p2, .int p3] (CW E ad s) (some (.int r)) (CW E ad s') := by
  unfold S7_chance at h
  cases hb : S7_chance_bad p1 p2 p3 s with
  | some z =>
    rw [hb] at h
    have h : some z = some (r, s') := h
    obtain rfl := Option.some.inj h
    exact L7_chance_bad l E ad p1 p2 p3 s r s' hb
  | none =>
    rw [hb] at h
    have h : S7_chance_ok p1 p2 p3 s = some (r, s') := h
    unfold S7_chance_ok at h
    by_cases hk : p2 = (0 : Int32)
    · have h := ip h hk
      subst hk
      exact L7_chance_0 l E ad p1 p3 s r s' h
    · have h := iq h hk
      by_cases hk : p2 = (1 : Int32)
      · have h := ip h hk
        subst hk
        exact L7_chance_1 l E ad p1 p3 s r s' h
      · have h := iq h hk
        by_cases hk : p2 = (2 : Int32)
        · have h := ip h hk
          subst hk
          exact L7_chance_2 l E ad p1 p3 s r s' h
        · have h := iq h hk
          by_cases hk : p2 = (3 : Int32)
          · have h := ip h hk
            subst hk
            exact L7_chance_3 l E ad p1 p3 s r s' h
          · have h := iq h hk
            by_cases hk : p2 = (4 : Int32)
            · have h := ip h hk
              subst hk
              exact L7_chance_4 l E ad p1 p3 s r s' h
            · have h := iq h hk
              by_cases hk : p2 = (5 : Int32)
              · have h := ip h hk
                subst hk
                exact L7_chance_5 l E ad p1 p3 s r s' h
              · have h := iq h hk
                by_cases hk : p2 = (6 : Int32)
                · have h := ip h hk
                  subst hk
                  exact L7_chance_6 l E ad p1 p3 s r s' h
                · have h := iq h hk
                  by_cases hk : p2 = (7 : Int32)
                  · have h := ip h hk
                    subst hk
                    exact L7_chance_7 l E ad p1 p3 s r s' h
                  · have h := iq h hk
                    by_cases hk : p2 = (8 : Int32)
                    · have h := ip h hk
                      subst hk
                      exact L7_chance_8 l E ad p1 p3 s r s' h
                    · have h := iq h hk
                      cases h
set_option maxHeartbeats 4000000 in
set_option maxRecDepth 100000 in
noncomputable def S8_chance (p1 : Int32) (p2 : Int32) (p3 : Int32) (s : MSt) : Option (Int32 × MSt) := Option.bind (sp_X8_chance p1 p2 p3 (s.2.1 0) (s.2.1 1) (s.2.2 6) (s.2.2 1)) fun z => some (z.1, (s.1, (va_up (va_up s.2.1 0 z.2.2.1) 1 z.2.2.2), (va_up s.2.2 6 z.2.1)))
set_option maxHeartbeats 4000000 in
set_option maxRecDepth 100000 in
theorem L8_chance (l : Launch) (E : wE) (md : Nat → Nat) (p1 : Int32) (p2 : Int32) (p3 : Int32) (s : MSt) (r : Int32) (s' : MSt) (h : S8_chance p1 p2 p3 s = some (r, s')) : MWp l yX8_chance cX8_chance 14 (some .int) 2 E [.ref (md 0), .int p1, .int p2, .int p3] (MWd E md s) (some (.int r)) (MWd E md s') := by
  unfold S8_chance at h
  obtain ⟨z, hz, h⟩ := bd_s h
  obtain ⟨rfl, rfl⟩ := Prod.mk.inj (Option.some.inj h)
  exact MWp.lift2 [true, false, true, false, false, false, false, true] 3 [0, 2, 1] [0, 2, 1] (MWp.ofW (c_X8_chance l E (md 0) (md 1) (md 2) (md 3) (md 4) (md 5) (md 6) (md 7) (md 8) (md 9) p1 p2 p3 (s.1 0) (s.2.1 0) (s.2.1 1) (s.1 1) (s.1 2) (s.1 3) (s.1 4) (s.2.2 6) (s.2.2 1) z.1 z.2.1 z.2.2.1 z.2.2.2 hz) rfl) rfl (by decide +kernel) rfl rfl (by decide +kernel) rfl rfl
set_option maxHeartbeats 4000000 in
set_option maxRecDepth 100000 in
noncomputable def S7_times (p1 : Int32) (p2 : Int32) (s : CSt) : Option (Int32 × CSt) := Option.bind (sp_X7_times p1 p2 (s.1 1) (s.1 4) (s.1 9) (s.1 10)) fun z => some (z.1, ((va_up s.1 1 z.2), s.2.1, s.2.2.1, s.2.2.2.1, s.2.2.2.2.1, s.2.2.2.2.2.1, s.2.2.2.2.2.2))
set_option maxHeartbeats 4000000 in
set_option maxRecDepth 100000 in
theorem L7_times (l : Launch) (E : wE) (ad : Nat → Nat) (p1 : Int32) (p2 : Int32) (s : CSt) (r : Int32) (s' : CSt) (h : S7_times p1 p2 s = some (r, s')) : MWp l yX7_times cX7_times 9 (some .int) 3 E [.ref (ad 0), .int p1, .int p2] (CW E ad s) (some (.int r)) (CW E ad s') := by
  unfold S7_times at h
  obtain ⟨z, hz, h⟩ := bd_s h
  obtain ⟨rfl, rfl⟩ := Prod.mk.inj (Option.some.inj h)
  exact MWp.lift [true, true, false, true] (MWp.ofW (c_X7_times l E (ad 0) (ad 1) (ad 11) (ad 21) (ad 42) (ad 44) (ad 55) (spA ad s.2.2.2.2.2.1) (sbA ad s.2.2.2.2.2.1) (ad 61) (ad 2) (ad 3) (ad 10) (ad 7) (ad 8) (ad 9) (ad 4) (ad 5) (ad 6) p1 p2 (s.1 0) (s.2.1 0) (s.2.1 1) (s.1 1) (s.1 2) (s.1 3) (s.1 4) (s.1 5) (s.1 6) (s.1 7) (s.1 8) (s.1 9) (s.1 10) z.1 z.2 hz) rfl) rfl rfl rfl
set_option maxHeartbeats 4000000 in
set_option maxRecDepth 100000 in
noncomputable def S8_times (p1 : Int32) (p2 : Int32) (s : MSt) : Option (Int32 × MSt) := Option.bind (sp_X8_times p1 p2 (s.2.2 6) (s.2.2 1)) fun z => some (z.1, (s.1, s.2.1, (va_up s.2.2 6 z.2)))
set_option maxHeartbeats 4000000 in
set_option maxRecDepth 100000 in
theorem L8_times (l : Launch) (E : wE) (md : Nat → Nat) (p1 : Int32) (p2 : Int32) (s : MSt) (r : Int32) (s' : MSt) (h : S8_times p1 p2 s = some (r, s')) : MWp l yX8_times cX8_times 8 (some .int) 2 E [.ref (md 0), .int p1, .int p2] (MWd E md s) (some (.int r)) (MWd E md s') := by
  unfold S8_times at h
  obtain ⟨z, hz, h⟩ := bd_s h
  obtain ⟨rfl, rfl⟩ := Prod.mk.inj (Option.some.inj h)
  exact MWp.lift2 [true, false, true, false, false, false, false, true] 3 [0, 2, 1] [0, 2, 1] (MWp.ofW (c_X8_times l E (md 0) (md 1) (md 2) (md 3) (md 4) (md 5) (md 6) (md 7) (md 8) (md 9) p1 p2 (s.1 0) (s.2.1 0) (s.2.1 1) (s.1 1) (s.1 2) (s.1 3) (s.1 4) (s.2.2 6) (s.2.2 1) z.1 z.2 hz) rfl) rfl (by decide +kernel) rfl rfl (by decide +kernel) rfl rfl
set_option maxHeartbeats 4000000 in
set_option maxRecDepth 100000 in
noncomputable def S7_part (p1 : Int32) (s : CSt) : Option (Int64 × CSt) := lt_ (sp_X7_part p1 (s.2.1 0) (s.2.1 1) (s.1 1)) fun z => some (z.1, ((va_up s.1 1 z.2), s.2.1, s.2.2.1, s.2.2.2.1, s.2.2.2.2.1, s.2.2.2.2.2.1, s.2.2.2.2.2.2))
set_option maxHeartbeats 4000000 in
set_option maxRecDepth 100000 in
theorem L7_part (l : Launch) (E : wE) (ad : Nat → Nat) (p1 : Int32) (s : CSt) (r : Int64) (s' : CSt) (h : S7_part p1 s = some (r, s')) : MWp l yX7_part cX7_part 2 (some .long) 1 E [.ref (ad 0), .int p1] (CW E ad s) (some (.long r)) (CW E ad s') := by
  unfold S7_part at h
  obtain ⟨z, hz, h⟩ := ltb_s h
  obtain ⟨rfl, rfl⟩ := Prod.mk.inj (Option.some.inj h)
  exact MWp.lift [true] (MWp.ofW (c_X7_part l E (ad 0) (ad 1) (ad 11) (ad 21) (ad 42) (ad 44) (ad 55) (spA ad s.2.2.2.2.2.1) (sbA ad s.2.2.2.2.2.1) (ad 61) p1 (s.1 0) (s.2.1 0) (s.2.1 1) (s.1 1) (s.1 2) (s.1 3) z.1 z.2 hz) rfl) rfl rfl rfl
set_option maxHeartbeats 4000000 in
set_option maxRecDepth 100000 in
noncomputable def S8_part (p1 : Int32) (s : MSt) : Option (Int64 × MSt) := lt_ (sp_X8_part p1 (s.2.1 0) (s.2.1 1) (s.2.2 6)) fun z => some (z.1, (s.1, s.2.1, (va_up s.2.2 6 z.2)))
set_option maxHeartbeats 4000000 in
set_option maxRecDepth 100000 in
theorem L8_part (l : Launch) (E : wE) (md : Nat → Nat) (p1 : Int32) (s : MSt) (r : Int64) (s' : MSt) (h : S8_part p1 s = some (r, s')) : MWp l yX8_part cX8_part 2 (some .long) 1 E [.ref (md 0), .int p1] (MWd E md s) (some (.long r)) (MWd E md s') := by
  unfold S8_part at h
  obtain ⟨z, hz, h⟩ := ltb_s h
  obtain ⟨rfl, rfl⟩ := Prod.mk.inj (Option.some.inj h)
  exact MWp.lift [true, false, false, false, false, false, false, true] (MWp.ofW (c_X8_part l E (md 0) (md 1) (md 2) (md 3) (md 4) (md 5) (md 6) (md 7) (md 8) (md 9) p1 (s.1 0) (s.2.1 0) (s.2.1 1) (s.1 1) (s.1 2) (s.1 3) (s.1 4) (s.2.2 6) z.1 z.2 hz) rfl) rfl rfl rfl
set_option maxHeartbeats 4000000 in
set_option maxRecDepth 100000 in
noncomputable def S7_image_0 (s : CSt) : Option (Int32 × CSt) := Option.bind (sp_X7_image_0 (s.1 0) (s.2.2.2.1 4) (s.2.2.2.1 5) (s.2.2.2.2.1 6) (s.2.2.2.2.1 7) (s.2.2.2.2.1 8) (s.1 4) (s.1 5) (s.1 6) (s.1 7) (s.1 8) (s.2.2.1 0) (s.1 9) (s.1 10) (s.2.2.1 1) (s.2.2.1 2) (s.2.2.1 3) (s.2.2.1 4) (s.2.2.1 5) (s.2.2.1 6) (s.2.2.2.1 0) (s.2.2.2.1 1) (s.2.2.2.2.1 0) (s.2.2.2.2.1 1) (s.2.2.2.2.1 2)) fun z => some (z.1, ((va_up (va_up (va_up (va_up (va_up (va_up (va_up (va_up s.1 0 z.2.1) 18 z.2.2.1) 19 z.2.2.2.1) 20 z.2.2.2.2.1) 21 z.2.2.2.2.2.1) 22 z.2.2.2.2.2.2.1) 23 z.2.2.2.2.2.2.2.2.1) 24 z.2.2.2.2.2.2.2.2.2.1), s.2.1, (va_up (va_up (va_up (va_up (va_up (va_up (va_up s.2.2.1 14 z.2.2.2.2.2.2.2.1) 15 z.2.2.2.2.2.2.2.2.2.2.1) 16 z.2.2.2.2.2.2.2.2.2.2.2.1) 17 z.2.2.2.2.2.2.2.2.2.2.2.2.1) 18 z.2.2.2.2.2.2.2.2.2.2.2.2.2.1) 19 z.2.2.2.2.2.2.2.2.2.2.2.2.2.2.1) 20 z.2.2.2.2.2.2.2.2.2.2.2.2.2.2.2.1), (va_up (va_up s.2.2.2.1 4 z.2.2.2.2.2.2.2.2.2.2.2.2.2.2.2.2.1) 5 z.2.2.2.2.2.2.2.2.2.2.2.2.2.2.2.2.2.1), (va_up (va_up (va_up s.2.2.2.2.1 6 z.2.2.2.2.2.2.2.2.2.2.2.2.2.2.2.2.2.2.1) 7 z.2.2.2.2.2.2.2.2.2.2.2.2.2.2.2.2.2.2.2.1) 8 z.2.2.2.2.2.2.2.2.2.2.2.2.2.2.2.2.2.2.2.2), s.2.2.2.2.2.1, s.2.2.2.2.2.2))
set_option maxHeartbeats 4000000 in
set_option maxRecDepth 100000 in
theorem L7_image_0 (l : Launch) (E : wE) (ad : Nat → Nat) (s : CSt) (r : Int32) (s' : CSt) (h : S7_image_0 s = some (r, s')) : MWp l yX7_image cX7_image 3 (some .int) 4 E [.ref (ad 0), .int (0 : Int32)] (CW E ad s) (some (.int r)) (CW E ad s') := by
  unfold S7_image_0 at h
  obtain ⟨z, hz, h⟩ := bd_s h
  obtain ⟨rfl, rfl⟩ := Prod.mk.inj (Option.some.inj h)
  exact MWp.lift2 [true, true, true, true, true, true, true, true, true, true, true, true, true, true, true, true, true, true, true, true, true, true, true, true, true, true, true, true, true, true, true, true, true, true, true, true, true, true, true, true, true, true, true, false, false, false, false, false, false, false, false, false, false, false, false, false, false, false, false, false, false, false, false, false, false, false, false, false, false, false, false, false, false, false, false, false, false, false, false, false, false, false, false, false, false, true, true, true, true, true, true, true, true, true, true, true, true, true, true, true, true, true, true, true, true, true, true, true, true, true, true, true, true, true, true, true, true, true, true, true, true, true, true, true, true, true, true, true] 86 [0, 43, 44, 45, 46, 47, 48, 49, 50, 51, 52, 53, 54, 55, 56, 57, 58, 59, 60, 61, 62, 63, 64, 65, 66, 67, 68, 69, 70, 71, 72, 73, 74, 75, 76, 77, 78, 79, 80, 81, 82, 83, 84, 85, 1, 2, 3, 4, 5, 6, 7, 8, 9, 10, 11, 12, 13, 14, 15, 16, 17, 18, 19, 20, 21, 22, 23, 24, 25, 26, 27, 28, 29, 30, 31, 32, 33, 34, 35, 36, 37, 38, 39, 40, 41, 42] [0, 44, 45, 46, 47, 48, 49, 50, 51, 52, 53, 54, 55, 56, 57, 58, 59, 60, 61, 62, 63, 64, 65, 66, 67, 68, 69, 70, 71, 72, 73, 74, 75, 76, 77, 78, 79, 80, 81, 82, 83, 84, 85, 1, 2, 3, 4, 5, 6, 7, 8, 9, 10, 11, 12, 13, 14, 15, 16, 17, 18, 19, 20, 21, 22, 23, 24, 25, 26, 27, 28, 29, 30, 31, 32, 33, 34, 35, 36, 37, 38, 39, 40, 41, 42, 43] (MWp.ofW (c_X7_image_0 l E (ad 0) (ad 1) (ad 11) (ad 21) (ad 42) (ad 44) (ad 55) (spA ad s.2.2.2.2.2.1) (sbA ad s.2.2.2.2.2.1) (ad 61) (ad 22) (ad 32) (ad 23) (ad 24) (ad 31) (ad 28) (ad 29) (ad 30) (ad 25) (ad 26) (ad 27) (ad 2) (ad 3) (ad 10) (ad 7) (ad 8) (ad 9) (ad 4) (ad 5) (ad 6) (s.1 0) (s.2.1 0) (s.2.1 1) (s.1 1) (s.1 2) (s.1 3) (s.1 18) (s.1 19) (s.1 20) (s.1 21) (s.1 22) (s.2.2.1 14) (s.1 23) (s.1 24) (s.2.2.1 15) (s.2.2.1 16) (s.2.2.1 17) (s.2.2.1 18) (s.2.2.1 19) (s.2.2.1 20) (s.2.2.2.2.2.2 8) (s.2.2.2.2.2.2 9) (s.2.2.2.2.2.2 10) (s.2.2.2.2.2.2 11) (s.2.2.2.1 4) (s.2.2.2.1 5) (s.2.2.2.2.1 6) (s.2.2.2.2.1 7) (s.2.2.2.2.1 8) (s.1 4) (s.1 5) (s.1 6) (s.1 7) (s.1 8) (s.2.2.1 0) (s.1 9) (s.1 10) (s.2.2.1 1) (s.2.2.1 2) (s.2.2.1 3) (s.2.2.1 4) (s.2.2.1 5) (s.2.2.1 6) (s.2.2.2.2.2.2 0) (s.2.2.2.2.2.2 1) (s.2.2.2.2.2.2 2) (s.2.2.2.2.2.2 3) (s.2.2.2.1 0) (s.2.2.2.1 1) (s.2.2.2.2.1 0) (s.2.2.2.2.1 1) (s.2.2.2.2.1 2) z.1 z.2.1 z.2.2.1 z.2.2.2.1 z.2.2.2.2.1 z.2.2.2.2.2.1 z.2.2.2.2.2.2.1 z.2.2.2.2.2.2.2.1 z.2.2.2.2.2.2.2.2.1 z.2.2.2.2.2.2.2.2.2.1 z.2.2.2.2.2.2.2.2.2.2.1 z.2.2.2.2.2.2.2.2.2.2.2.1 z.2.2.2.2.2.2.2.2.2.2.2.2.1 z.2.2.2.2.2.2.2.2.2.2.2.2.2.1 z.2.2.2.2.2.2.2.2.2.2.2.2.2.2.1 z.2.2.2.2.2.2.2.2.2.2.2.2.2.2.2.1 z.2.2.2.2.2.2.2.2.2.2.2.2.2.2.2.2.1 z.2.2.2.2.2.2.2.2.2.2.2.2.2.2.2.2.2.1 z.2.2.2.2.2.2.2.2.2.2.2.2.2.2.2.2.2.2.1 z.2.2.2.2.2.2.2.2.2.2.2.2.2.2.2.2.2.2.2.1 z.2.2.2.2.2.2.2.2.2.2.2.2.2.2.2.2.2.2.2.2 hz) rfl) rfl (by decide +kernel) rfl rfl (by decide +kernel) rfl rfl
set_option maxHeartbeats 4000000 in
set_option maxRecDepth 100000 in
noncomputable def S7_image_1 (s : CSt) : Option (Int32 × CSt) := Option.bind (sp_X7_image_1 (s.1 0) (s.2.2.2.1 6) (s.2.2.2.1 7) (s.2.2.2.2.1 9) (s.2.2.2.2.1 10) (s.2.2.2.2.1 11) (s.1 4) (s.1 5) (s.1 6) (s.1 7) (s.1 8) (s.2.2.1 0) (s.1 9) (s.1 10) (s.2.2.1 1) (s.2.2.1 2) (s.2.2.1 3) (s.2.2.1 4) (s.2.2.1 5) (s.2.2.1 6) (s.2.2.2.1 0) (s.2.2.2.1 1) (s.2.2.2.2.1 0) (s.2.2.2.2.1 1) (s.2.2.2.2.1 2)) fun z => some (z.1, ((va_up (va_up (va_up (va_up (va_up (va_up (va_up (va_up s.1 0 z.2.1) 25 z.2.2.1) 26 z.2.2.2.1) 27 z.2.2.2.2.1) 28 z.2.2.2.2.2.1) 29 z.2.2.2.2.2.2.1) 30 z.2.2.2.2.2.2.2.2.1) 31 z.2.2.2.2.2.2.2.2.2.1), s.2.1, (va_up (va_up (va_up (va_up (va_up (va_up (va_up s.2.2.1 21 z.2.2.2.2.2.2.2.1) 22 z.2.2.2.2.2.2.2.2.2.2.1) 23 z.2.2.2.2.2.2.2.2.2.2.2.1) 24 z.2.2.2.2.2.2.2.2.2.2.2.2.1) 25 z.2.2.2.2.2.2.2.2.2.2.2.2.2.1) 26 z.2.2.2.2.2.2.2.2.2.2.2.2.2.2.1) 27 z.2.2.2.2.2.2.2.2.2.2.2.2.2.2.2.1), (va_up (va_up s.2.2.2.1 6 z.2.2.2.2.2.2.2.2.2.2.2.2.2.2.2.2.1) 7 z.2.2.2.2.2.2.2.2.2.2.2.2.2.2.2.2.2.1), (va_up (va_up (va_up s.2.2.2.2.1 9 z.2.2.2.2.2.2.2.2.2.2.2.2.2.2.2.2.2.2.1) 10 z.2.2.2.2.2.2.2.2.2.2.2.2.2.2.2.2.2.2.2.1) 11 z.2.2.2.2.2.2.2.2.2.2.2.2.2.2.2.2.2.2.2.2), s.2.2.2.2.2.1, s.2.2.2.2.2.2))
set_option maxHeartbeats 4000000 in
set_option maxRecDepth 100000 in
theorem L7_image_1 (l : Launch) (E : wE) (ad : Nat → Nat) (s : CSt) (r : Int32) (s' : CSt) (h : S7_image_1 s = some (r, s')) : MWp l yX7_image cX7_image 3 (some .int) 4 E [.ref (ad 0), .int (1 : Int32)] (CW E ad s) (some (.int r)) (CW E ad s') := by
  unfold S7_image_1 at h
  obtain ⟨z, hz, h⟩ := bd_s h
  obtain ⟨rfl, rfl⟩ := Prod.mk.inj (Option.some.inj h)
  exact MWp.lift2 [true, true, true, true, true, true, true, true, true, true, true, true, true, true, true, true, true, true, true, true, true, true, true, true, true, true, true, true, true, true, true, true, true, true, true, true, true, true, true, true, true, true, true, false, false, false, false, false, false, false, false, false, false, false, false, false, false, false, false, false, false, false, false, false, false, false, false, false, false, false, false, false, false, false, false, false, false, false, false, false, false, false, false, false, false, true, false, false, false, false, false, false, false, false, false, false, false, false, false, false, false, false, false, false, false, false, false, false, false, false, false, false, false, false, false, false, false, false, false, false, false, false, false, false, false, false, false, false, true, true, true, true, true, true, true, true, true, true, true, true, true, true, true, true, true, true, true, true, true, true, true, true, true, true, true, true, true, true, true, true, true, true, true, true, true, true, true, true, true, true] 86 [0, 43, 44, 45, 46, 47, 48, 49, 50, 51, 52, 53, 54, 55, 56, 57, 58, 59, 60, 61, 62, 63, 64, 65, 66, 67, 68, 69, 70, 71, 72, 73, 74, 75, 76, 77, 78, 79, 80, 81, 82, 83, 84, 85, 1, 2, 3, 4, 5, 6, 7, 8, 9, 10, 11, 12, 13, 14, 15, 16, 17, 18, 19, 20, 21, 22, 23, 24, 25, 26, 27, 28, 29, 30, 31, 32, 33, 34, 35, 36, 37, 38, 39, 40, 41, 42] [0, 44, 45, 46, 47, 48, 49, 50, 51, 52, 53, 54, 55, 56, 57, 58, 59, 60, 61, 62, 63, 64, 65, 66, 67, 68, 69, 70, 71, 72, 73, 74, 75, 76, 77, 78, 79, 80, 81, 82, 83, 84, 85, 1, 2, 3, 4, 5, 6, 7, 8, 9, 10, 11, 12, 13, 14, 15, 16, 17, 18, 19, 20, 21, 22, 23, 24, 25, 26, 27, 28, 29, 30, 31, 32, 33, 34, 35, 36, 37, 38, 39, 40, 41, 42, 43] (MWp.ofW (c_X7_image_1 l E (ad 0) (ad 1) (ad 11) (ad 21) (ad 42) (ad 44) (ad 55) (spA ad s.2.2.2.2.2.1) (sbA ad s.2.2.2.2.2.1) (ad 61) (ad 22) (ad 32) (ad 33) (ad 34) (ad 41) (ad 38) (ad 39) (ad 40) (ad 35) (ad 36) (ad 37) (ad 2) (ad 3) (ad 10) (ad 7) (ad 8) (ad 9) (ad 4) (ad 5) (ad 6) (s.1 0) (s.2.1 0) (s.2.1 1) (s.1 1) (s.1 2) (s.1 3) (s.1 25) (s.1 26) (s.1 27) (s.1 28) (s.1 29) (s.2.2.1 21) (s.1 30) (s.1 31) (s.2.2.1 22) (s.2.2.1 23) (s.2.2.1 24) (s.2.2.1 25) (s.2.2.1 26) (s.2.2.1 27) (s.2.2.2.2.2.2 12) (s.2.2.2.2.2.2 13) (s.2.2.2.2.2.2 14) (s.2.2.2.2.2.2 15) (s.2.2.2.1 6) (s.2.2.2.1 7) (s.2.2.2.2.1 9) (s.2.2.2.2.1 10) (s.2.2.2.2.1 11) (s.1 4) (s.1 5) (s.1 6) (s.1 7) (s.1 8) (s.2.2.1 0) (s.1 9) (s.1 10) (s.2.2.1 1) (s.2.2.1 2) (s.2.2.1 3) (s.2.2.1 4) (s.2.2.1 5) (s.2.2.1 6) (s.2.2.2.2.2.2 0) (s.2.2.2.2.2.2 1) (s.2.2.2.2.2.2 2) (s.2.2.2.2.2.2 3) (s.2.2.2.1 0) (s.2.2.2.1 1) (s.2.2.2.2.1 0) (s.2.2.2.2.1 1) (s.2.2.2.2.1 2) z.1 z.2.1 z.2.2.1 z.2.2.2.1 z.2.2.2.2.1 z.2.2.2.2.2.1 z.2.2.2.2.2.2.1 z.2.2.2.2.2.2.2.1 z.2.2.2.2.2.2.2.2.1 z.2.2.2.2.2.2.2.2.2.1 z.2.2.2.2.2.2.2.2.2.2.1 z.2.2.2.2.2.2.2.2.2.2.2.1 z.2.2.2.2.2.2.2.2.2.2.2.2.1 z.2.2.2.2.2.2.2.2.2.2.2.2.2.1 z.2.2.2.2.2.2.2.2.2.2.2.2.2.2.1 z.2.2.2.2.2.2.2.2.2.2.2.2.2.2.2.1 z.2.2.2.2.2.2.2.2.2.2.2.2.2.2.2.2.1 z.2.2.2.2.2.2.2.2.2.2.2.2.2.2.2.2.2.1 z.2.2.2.2.2.2.2.2.2.2.2.2.2.2.2.2.2.2.1 z.2.2.2.2.2.2.2.2.2.2.2.2.2.2.2.2.2.2.2.1 z.2.2.2.2.2.2.2.2.2.2.2.2.2.2.2.2.2.2.2.2 hz) rfl) rfl (by decide +kernel) rfl rfl (by decide +kernel) rfl rfl
set_option maxHeartbeats 4000000 in
set_option maxRecDepth 100000 in
noncomputable def S7_image_bad (p1 : Int32) (s : CSt) : Option (Int32 × CSt) := Option.bind (sp_X7_image_bad p1 (s.1 1)) fun z => some (z.1, ((va_up s.1 1 z.2), s.2.1, s.2.2.1, s.2.2.2.1, s.2.2.2.2.1, s.2.2.2.2.2.1, s.2.2.2.2.2.2))
set_option maxHeartbeats 4000000 in
set_option maxRecDepth 100000 in
theorem L7_image_bad (l : Launch) (E : wE) (ad : Nat → Nat) (p1 : Int32) (s : CSt) (r : Int32) (s' : CSt) (h : S7_image_bad p1 s = some (r, s')) : MWp l yX7_image cX7_image 3 (some .int) 4 E [.ref (ad 0), .int p1] (CW E ad s) (some (.int r)) (CW E ad s') := by
  unfold S7_image_bad at h
  obtain ⟨z, hz, h⟩ := bd_s h
  obtain ⟨rfl, rfl⟩ := Prod.mk.inj (Option.some.inj h)
  exact MWp.lift [true, false, false, false, false, false, false, false, false, false, false, false, false, false, false, false, false, false, false, false, false, false, false, false, false, false, false, false, false, false, false, false, false, false, false, false, false, false, false, false, false, false, false, false, false, false, false, false, false, false, false, false, false, false, false, false, false, false, false, false, false, false, false, false, false, false, false, false, false, false, false, false, false, false, false, false, false, false, false, false, false, false, false, false, false, true] (MWp.ofW (c_X7_image_bad l E (ad 0) (ad 1) (ad 11) (ad 21) (ad 42) (ad 44) (ad 55) (spA ad s.2.2.2.2.2.1) (sbA ad s.2.2.2.2.2.1) (ad 61) (ad 22) (ad 32) p1 (s.1 0) (s.2.1 0) (s.2.1 1) (s.1 1) (s.1 2) (s.1 3) z.1 z.2 hz) rfl) rfl rfl rfl
noncomputable def S7_image (p1 : Int32) (s : CSt) : Option (Int32 × CSt) := if p1 = (0 : Int32) then S7_image_0 s else if p1 = (1 : Int32) then S7_image_1 s else S7_image_bad p1 s
theorem L7_image (l : Launch) (E : wE) (ad : Nat → Nat) (p1 : Int32) (s : CSt) (r : Int32) (s' : CSt) (h : S7_image p1 s = some (r, s')) : MWp l yX7_image cX7_image 3 (some .int) 4 E [.ref (ad 0), .int p1] (CW E ad s) (some (.int r)) (CW E ad s') := by
  unfold S7_image at h
  by_cases hk : p1 = (0 : Int32)
  · have h := ip h hk
    subst hk
    exact L7_image_0 l E ad s r s' h
  · have h := iq h hk
    by_cases hk : p1 = (1 : Int32)
    · have h := ip h hk
      subst hk
      exact L7_image_1 l E ad s r s' h
    · have h := iq h hk
      exact L7_image_bad l E ad p1 s r s' h
set_option maxHeartbeats 4000000 in
set_option maxRecDepth 100000 in
noncomputable def S8_image (p1 : Int32) (s : MSt) : Option (Int32 × MSt) := Option.bind (sp_X8_image p1 (s.2.2 1) (s.2.2 4) (s.2.2 5) (s.2.2 6)) fun z => some (z.1, (s.1, s.2.1, (va_up (va_up (va_up s.2.2 4 z.2.1) 5 z.2.2.1) 6 z.2.2.2)))
set_option maxHeartbeats 4000000 in
set_option maxRecDepth 100000 in
theorem L8_image (l : Launch) (E : wE) (md : Nat → Nat) (p1 : Int32) (s : MSt) (r : Int32) (s' : MSt) (h : S8_image p1 s = some (r, s')) : MWp l yX8_image cX8_image 2 (some .int) 1 E [.ref (md 0), .int p1] (MWd E md s) (some (.int r)) (MWd E md s') := by
  unfold S8_image at h
  obtain ⟨z, hz, h⟩ := bd_s h
  obtain ⟨rfl, rfl⟩ := Prod.mk.inj (Option.some.inj h)
  exact MWp.lift [true, false, true, false, false, true, true, true] (MWp.ofW (c_X8_image l E (md 0) (md 1) (md 2) (md 3) (md 4) (md 5) (md 6) (md 7) (md 8) (md 9) p1 (s.1 0) (s.2.1 0) (s.2.1 1) (s.1 1) (s.1 2) (s.1 3) (s.1 4) (s.2.2 1) (s.2.2 4) (s.2.2 5) (s.2.2 6) z.1 z.2.1 z.2.2.1 z.2.2.2 hz) rfl) rfl rfl rfl
set_option maxHeartbeats 4000000 in
set_option maxRecDepth 100000 in
noncomputable def S7_from_0 (s : CSt) : Option (Int32 × CSt) := Option.bind (sp_X7_from_0 (s.1 0) (s.1 2) (s.1 4) (s.1 5) (s.1 6) (s.1 7) (s.1 8) (s.2.2.1 0) (s.1 9) (s.1 10) (s.2.2.1 1) (s.2.2.1 2) (s.2.2.1 3) (s.2.2.1 4) (s.2.2.1 5) (s.2.2.1 6) (s.2.2.2.1 0) (s.2.2.2.1 1) (s.2.2.2.2.1 0) (s.2.2.2.2.1 1) (s.2.2.2.2.1 2) (s.1 18) (s.1 19) (s.1 20) (s.1 21) (s.1 22) (s.2.2.1 14) (s.1 23) (s.1 24) (s.2.2.1 15) (s.2.2.1 16) (s.2.2.1 17) (s.2.2.1 18) (s.2.2.1 19) (s.2.2.1 20) (s.2.2.2.1 4) (s.2.2.2.1 5) (s.2.2.2.2.1 6) (s.2.2.2.2.1 7) (s.2.2.2.2.1 8)) fun z => some (z.1, ((va_up (va_up (va_up (va_up (va_up (va_up (va_up (va_up s.1 4 z.2.1) 5 z.2.2.1) 6 z.2.2.2.1) 7 z.2.2.2.2.1) 8 z.2.2.2.2.2.1) 9 z.2.2.2.2.2.2.2.1) 10 z.2.2.2.2.2.2.2.2.1) 2 z.2.2.2.2.2.2.2.2.2.2.2.2.2.2.2.2.2.2.2.2), s.2.1, (va_up (va_up (va_up (va_up (va_up (va_up (va_up s.2.2.1 0 z.2.2.2.2.2.2.1) 1 z.2.2.2.2.2.2.2.2.2.1) 2 z.2.2.2.2.2.2.2.2.2.2.1) 3 z.2.2.2.2.2.2.2.2.2.2.2.1) 4 z.2.2.2.2.2.2.2.2.2.2.2.2.1) 5 z.2.2.2.2.2.2.2.2.2.2.2.2.2.1) 6 z.2.2.2.2.2.2.2.2.2.2.2.2.2.2.1), (va_up (va_up s.2.2.2.1 0 z.2.2.2.2.2.2.2.2.2.2.2.2.2.2.2.1) 1 z.2.2.2.2.2.2.2.2.2.2.2.2.2.2.2.2.1), (va_up (va_up (va_up s.2.2.2.2.1 0 z.2.2.2.2.2.2.2.2.2.2.2.2.2.2.2.2.2.1) 1 z.2.2.2.2.2.2.2.2.2.2.2.2.2.2.2.2.2.2.1) 2 z.2.2.2.2.2.2.2.2.2.2.2.2.2.2.2.2.2.2.2.1), s.2.2.2.2.2.1, s.2.2.2.2.2.2))
set_option maxHeartbeats 4000000 in
set_option maxRecDepth 100000 in
theorem L7_from_0 (l : Launch) (E : wE) (ad : Nat → Nat) (s : CSt) (r : Int32) (s' : CSt) (h : S7_from_0 s = some (r, s')) : MWp l yX7_from cX7_from 3 (some .int) 4 E [.ref (ad 0), .int (0 : Int32)] (CW E ad s) (some (.int r)) (CW E ad s') := by
  unfold S7_from_0 at h
  obtain ⟨z, hz, h⟩ := bd_s h
  obtain ⟨rfl, rfl⟩ := Prod.mk.inj (Option.some.inj h)
  exact MWp.lift2 [true, true, true, true, true, true, true, true, true, true, true, true, true, true, true, true, true, true, true, true, true, true, true, true, true, true, true, true, true, true, true, true, true, true, true, true, true, true, true, true, true, true, true, false, false, false, false, false, false, false, false, false, false, false, false, false, false, false, false, false, false, false, false, false, false, false, false, false, false, false, false, false, false, false, false, false, false, false, false, false, false, false, false, false, false, true, true, true, true, true, true, true, true, true, true, true, true, true, true, true, true, true, true, true, true, true, true, true, true, true, true, true, true, true, true, true, true, true, true, true, true, true, true, true, true, true, true, true] 86 [0, 43, 1, 2, 3, 4, 5, 6, 7, 8, 9, 10, 11, 12, 13, 14, 15, 16, 17, 18, 19, 20, 21, 22, 23, 24, 25, 26, 27, 28, 29, 30, 31, 32, 33, 34, 35, 36, 37, 38, 39, 40, 41, 42, 44, 45, 46, 47, 48, 49, 50, 51, 52, 53, 54, 55, 56, 57, 58, 59, 60, 61, 62, 63, 64, 65, 66, 67, 68, 69, 70, 71, 72, 73, 74, 75, 76, 77, 78, 79, 80, 81, 82, 83, 84, 85] [0, 2, 3, 4, 5, 6, 7, 8, 9, 10, 11, 12, 13, 14, 15, 16, 17, 18, 19, 20, 21, 22, 23, 24, 25, 26, 27, 28, 29, 30, 31, 32, 33, 34, 35, 36, 37, 38, 39, 40, 41, 42, 43, 1, 44, 45, 46, 47, 48, 49, 50, 51, 52, 53, 54, 55, 56, 57, 58, 59, 60, 61, 62, 63, 64, 65, 66, 67, 68, 69, 70, 71, 72, 73, 74, 75, 76, 77, 78, 79, 80, 81, 82, 83, 84, 85] (MWp.ofW (c_X7_from_0 l E (ad 0) (ad 1) (ad 11) (ad 21) (ad 42) (ad 44) (ad 55) (spA ad s.2.2.2.2.2.1) (sbA ad s.2.2.2.2.2.1) (ad 61) (ad 22) (ad 32) (ad 2) (ad 3) (ad 10) (ad 7) (ad 8) (ad 9) (ad 4) (ad 5) (ad 6) (ad 23) (ad 24) (ad 31) (ad 28) (ad 29) (ad 30) (ad 25) (ad 26) (ad 27) (s.1 0) (s.2.1 0) (s.2.1 1) (s.1 1) (s.1 2) (s.1 3) (s.1 4) (s.1 5) (s.1 6) (s.1 7) (s.1 8) (s.2.2.1 0) (s.1 9) (s.1 10) (s.2.2.1 1) (s.2.2.1 2) (s.2.2.1 3) (s.2.2.1 4) (s.2.2.1 5) (s.2.2.1 6) (s.2.2.2.2.2.2 0) (s.2.2.2.2.2.2 1) (s.2.2.2.2.2.2 2) (s.2.2.2.2.2.2 3) (s.2.2.2.1 0) (s.2.2.2.1 1) (s.2.2.2.2.1 0) (s.2.2.2.2.1 1) (s.2.2.2.2.1 2) (s.1 18) (s.1 19) (s.1 20) (s.1 21) (s.1 22) (s.2.2.1 14) (s.1 23) (s.1 24) (s.2.2.1 15) (s.2.2.1 16) (s.2.2.1 17) (s.2.2.1 18) (s.2.2.1 19) (s.2.2.1 20) (s.2.2.2.2.2.2 8) (s.2.2.2.2.2.2 9) (s.2.2.2.2.2.2 10) (s.2.2.2.2.2.2 11) (s.2.2.2.1 4) (s.2.2.2.1 5) (s.2.2.2.2.1 6) (s.2.2.2.2.1 7) (s.2.2.2.2.1 8) z.1 z.2.1 z.2.2.1 z.2.2.2.1 z.2.2.2.2.1 z.2.2.2.2.2.1 z.2.2.2.2.2.2.1 z.2.2.2.2.2.2.2.1 z.2.2.2.2.2.2.2.2.1 z.2.2.2.2.2.2.2.2.2.1 z.2.2.2.2.2.2.2.2.2.2.1 z.2.2.2.2.2.2.2.2.2.2.2.1 z.2.2.2.2.2.2.2.2.2.2.2.2.1 z.2.2.2.2.2.2.2.2.2.2.2.2.2.1 z.2.2.2.2.2.2.2.2.2.2.2.2.2.2.1 z.2.2.2.2.2.2.2.2.2.2.2.2.2.2.2.1 z.2.2.2.2.2.2.2.2.2.2.2.2.2.2.2.2.1 z.2.2.2.2.2.2.2.2.2.2.2.2.2.2.2.2.2.1 z.2.2.2.2.2.2.2.2.2.2.2.2.2.2.2.2.2.2.1 z.2.2.2.2.2.2.2.2.2.2.2.2.2.2.2.2.2.2.2.1 z.2.2.2.2.2.2.2.2.2.2.2.2.2.2.2.2.2.2.2.2 hz) rfl) rfl (by decide +kernel) rfl rfl (by decide +kernel) rfl rfl
set_option maxHeartbeats 4000000 in
set_option maxRecDepth 100000 in
noncomputable def S7_from_1 (s : CSt) : Option (Int32 × CSt) := Option.bind (sp_X7_from_1 (s.1 0) (s.1 2) (s.1 4) (s.1 5) (s.1 6) (s.1 7) (s.1 8) (s.2.2.1 0) (s.1 9) (s.1 10) (s.2.2.1 1) (s.2.2.1 2) (s.2.2.1 3) (s.2.2.1 4) (s.2.2.1 5) (s.2.2.1 6) (s.2.2.2.1 0) (s.2.2.2.1 1) (s.2.2.2.2.1 0) (s.2.2.2.2.1 1) (s.2.2.2.2.1 2) (s.1 25) (s.1 26) (s.1 27) (s.1 28) (s.1 29) (s.2.2.1 21) (s.1 30) (s.1 31) (s.2.2.1 22) (s.2.2.1 23) (s.2.2.1 24) (s.2.2.1 25) (s.2.2.1 26) (s.2.2.1 27) (s.2.2.2.1 6) (s.2.2.2.1 7) (s.2.2.2.2.1 9) (s.2.2.2.2.1 10) (s.2.2.2.2.1 11)) fun z => some (z.1, ((va_up (va_up (va_up (va_up (va_up (va_up (va_up (va_up s.1 4 z.2.1) 5 z.2.2.1) 6 z.2.2.2.1) 7 z.2.2.2.2.1) 8 z.2.2.2.2.2.1) 9 z.2.2.2.2.2.2.2.1) 10 z.2.2.2.2.2.2.2.2.1) 2 z.2.2.2.2.2.2.2.2.2.2.2.2.2.2.2.2.2.2.2.2), s.2.1, (va_up (va_up (va_up (va_up (va_up (va_up (va_up s.2.2.1 0 z.2.2.2.2.2.2.1) 1 z.2.2.2.2.2.2.2.2.2.1) 2 z.2.2.2.2.2.2.2.2.2.2.1) 3 z.2.2.2.2.2.2.2.2.2.2.2.1) 4 z.2.2.2.2.2.2.2.2.2.2.2.2.1) 5 z.2.2.2.2.2.2.2.2.2.2.2.2.2.1) 6 z.2.2.2.2.2.2.2.2.2.2.2.2.2.2.1), (va_up (va_up s.2.2.2.1 0 z.2.2.2.2.2.2.2.2.2.2.2.2.2.2.2.1) 1 z.2.2.2.2.2.2.2.2.2.2.2.2.2.2.2.2.1), (va_up (va_up (va_up s.2.2.2.2.1 0 z.2.2.2.2.2.2.2.2.2.2.2.2.2.2.2.2.2.1) 1 z.2.2.2.2.2.2.2.2.2.2.2.2.2.2.2.2.2.2.1) 2 z.2.2.2.2.2.2.2.2.2.2.2.2.2.2.2.2.2.2.2.1), s.2.2.2.2.2.1, s.2.2.2.2.2.2))
set_option maxHeartbeats 4000000 in
set_option maxRecDepth 100000 in
theorem L7_from_1 (l : Launch) (E : wE) (ad : Nat → Nat) (s : CSt) (r : Int32) (s' : CSt) (h : S7_from_1 s = some (r, s')) : MWp l yX7_from cX7_from 3 (some .int) 4 E [.ref (ad 0), .int (1 : Int32)] (CW E ad s) (some (.int r)) (CW E ad s') := by
  unfold S7_from_1 at h
  obtain ⟨z, hz, h⟩ := bd_s h
  obtain ⟨rfl, rfl⟩ := Prod.mk.inj (Option.some.inj h)
  exact MWp.lift2 [true, true, true, true, true, true, true, true, true, true, true, true, true, true, true, true, true, true, true, true, true, true, true, true, true, true, true, true, true, true, true, true, true, true, true, true, true, true, true, true, true, true, true, false, false, false, false, false, false, false, false, false, false, false, false, false, false, false, false, false, false, false, false, false, false, false, false, false, false, false, false, false, false, false, false, false, false, false, false, false, false, false, false, false, false, true, false, false, false, false, false, false, false, false, false, false, false, false, false, false, false, false, false, false, false, false, false, false, false, false, false, false, false, false, false, false, false, false, false, false, false, false, false, false, false, false, false, false, true, true, true, true, true, true, true, true, true, true, true, true, true, true, true, true, true, true, true, true, true, true, true, true, true, true, true, true, true, true, true, true, true, true, true, true, true, true, true, true, true, true] 86 [0, 43, 1, 2, 3, 4, 5, 6, 7, 8, 9, 10, 11, 12, 13, 14, 15, 16, 17, 18, 19, 20, 21, 22, 23, 24, 25, 26, 27, 28, 29, 30, 31, 32, 33, 34, 35, 36, 37, 38, 39, 40, 41, 42, 44, 45, 46, 47, 48, 49, 50, 51, 52, 53, 54, 55, 56, 57, 58, 59, 60, 61, 62, 63, 64, 65, 66, 67, 68, 69, 70, 71, 72, 73, 74, 75, 76, 77, 78, 79, 80, 81, 82, 83, 84, 85] [0, 2, 3, 4, 5, 6, 7, 8, 9, 10, 11, 12, 13, 14, 15, 16, 17, 18, 19, 20, 21, 22, 23, 24, 25, 26, 27, 28, 29, 30, 31, 32, 33, 34, 35, 36, 37, 38, 39, 40, 41, 42, 43, 1, 44, 45, 46, 47, 48, 49, 50, 51, 52, 53, 54, 55, 56, 57, 58, 59, 60, 61, 62, 63, 64, 65, 66, 67, 68, 69, 70, 71, 72, 73, 74, 75, 76, 77, 78, 79, 80, 81, 82, 83, 84, 85] (MWp.ofW (c_X7_from_1 l E (ad 0) (ad 1) (ad 11) (ad 21) (ad 42) (ad 44) (ad 55) (spA ad s.2.2.2.2.2.1) (sbA ad s.2.2.2.2.2.1) (ad 61) (ad 22) (ad 32) (ad 2) (ad 3) (ad 10) (ad 7) (ad 8) (ad 9) (ad 4) (ad 5) (ad 6) (ad 33) (ad 34) (ad 41) (ad 38) (ad 39) (ad 40) (ad 35) (ad 36) (ad 37) (s.1 0) (s.2.1 0) (s.2.1 1) (s.1 1) (s.1 2) (s.1 3) (s.1 4) (s.1 5) (s.1 6) (s.1 7) (s.1 8) (s.2.2.1 0) (s.1 9) (s.1 10) (s.2.2.1 1) (s.2.2.1 2) (s.2.2.1 3) (s.2.2.1 4) (s.2.2.1 5) (s.2.2.1 6) (s.2.2.2.2.2.2 0) (s.2.2.2.2.2.2 1) (s.2.2.2.2.2.2 2) (s.2.2.2.2.2.2 3) (s.2.2.2.1 0) (s.2.2.2.1 1) (s.2.2.2.2.1 0) (s.2.2.2.2.1 1) (s.2.2.2.2.1 2) (s.1 25) (s.1 26) (s.1 27) (s.1 28) (s.1 29) (s.2.2.1 21) (s.1 30) (s.1 31) (s.2.2.1 22) (s.2.2.1 23) (s.2.2.1 24) (s.2.2.1 25) (s.2.2.1 26) (s.2.2.1 27) (s.2.2.2.2.2.2 12) (s.2.2.2.2.2.2 13) (s.2.2.2.2.2.2 14) (s.2.2.2.2.2.2 15) (s.2.2.2.1 6) (s.2.2.2.1 7) (s.2.2.2.2.1 9) (s.2.2.2.2.1 10) (s.2.2.2.2.1 11) z.1 z.2.1 z.2.2.1 z.2.2.2.1 z.2.2.2.2.1 z.2.2.2.2.2.1 z.2.2.2.2.2.2.1 z.2.2.2.2.2.2.2.1 z.2.2.2.2.2.2.2.2.1 z.2.2.2.2.2.2.2.2.2.1 z.2.2.2.2.2.2.2.2.2.2.1 z.2.2.2.2.2.2.2.2.2.2.2.1 z.2.2.2.2.2.2.2.2.2.2.2.2.1 z.2.2.2.2.2.2.2.2.2.2.2.2.2.1 z.2.2.2.2.2.2.2.2.2.2.2.2.2.2.1 z.2.2.2.2.2.2.2.2.2.2.2.2.2.2.2.1 z.2.2.2.2.2.2.2.2.2.2.2.2.2.2.2.2.1 z.2.2.2.2.2.2.2.2.2.2.2.2.2.2.2.2.2.1 z.2.2.2.2.2.2.2.2.2.2.2.2.2.2.2.2.2.2.1 z.2.2.2.2.2.2.2.2.2.2.2.2.2.2.2.2.2.2.2.1 z.2.2.2.2.2.2.2.2.2.2.2.2.2.2.2.2.2.2.2.2 hz) rfl) rfl (by decide +kernel) rfl rfl (by decide +kernel) rfl rfl
set_option maxHeartbeats 4000000 in
set_option maxRecDepth 100000 in
noncomputable def S7_from_bad (p1 : Int32) (s : CSt) : Option (Int32 × CSt) := Option.bind (sp_X7_from_bad p1 (s.1 1)) fun z => some (z.1, ((va_up s.1 1 z.2), s.2.1, s.2.2.1, s.2.2.2.1, s.2.2.2.2.1, s.2.2.2.2.2.1, s.2.2.2.2.2.2))
set_option maxHeartbeats 4000000 in
set_option maxRecDepth 100000 in
theorem L7_from_bad (l : Launch) (E : wE) (ad : Nat → Nat) (p1 : Int32) (s : CSt) (r : Int32) (s' : CSt) (h : S7_from_bad p1 s = some (r, s')) : MWp l yX7_from cX7_from 3 (some .int) 4 E [.ref (ad 0), .int p1] (CW E ad s) (some (.int r)) (CW E ad s') := by
  unfold S7_from_bad at h
  obtain ⟨z, hz, h⟩ := bd_s h
  obtain ⟨rfl, rfl⟩ := Prod.mk.inj (Option.some.inj h)
  exact MWp.lift [true, false, false, false, false, false, false, false, false, false, false, false, false, false, false, false, false, false, false, false, false, false, false, false, false, false, false, false, false, false, false, false, false, false, false, false, false, false, false, false, false, false, false, false, false, false, false, false, false, false, false, false, false, false, false, false, false, false, false, false, false, false, false, false, false, false, false, false, false, false, false, false, false, false, false, false, false, false, false, false, false, false, false, false, false, true] (MWp.ofW (c_X7_from_bad l E (ad 0) (ad 1) (ad 11) (ad 21) (ad 42) (ad 44) (ad 55) (spA ad s.2.2.2.2.2.1) (sbA ad s.2.2.2.2.2.1) (ad 61) (ad 22) (ad 32) p1 (s.1 0) (s.2.1 0) (s.2.1 1) (s.1 1) (s.1 2) (s.1 3) z.1 z.2 hz) rfl) rfl rfl rfl
noncomputable def S7_from (p1 : Int32) (s : CSt) : Option (Int32 × CSt) := if p1 = (0 : Int32) then S7_from_0 s else if p1 = (1 : Int32) then S7_from_1 s else S7_from_bad p1 s
theorem L7_from (l : Launch) (E : wE) (ad : Nat → Nat) (p1 : Int32) (s : CSt) (r : Int32) (s' : CSt) (h : S7_from p1 s = some (r, s')) : MWp l yX7_from cX7_from 3 (some .int) 4 E [.ref (ad 0), .int p1] (CW E ad s) (some (.int r)) (CW E ad s') := by
  unfold S7_from at h
  by_cases hk : p1 = (0 : Int32)
  · have h := ip h hk
    subst hk
    exact L7_from_0 l E ad s r s' h
  · have h := iq h hk
    by_cases hk : p1 = (1 : Int32)
    · have h := ip h hk
      subst hk
      exact L7_from_1 l E ad s r s' h
    · have h := iq h hk
      exact L7_from_bad l E ad p1 s r s' h
set_option maxHeartbeats 4000000 in
set_option maxRecDepth 100000 in
noncomputable def S8_from (p1 : Int32) (s : MSt) : Option (Int32 × MSt) := Option.bind (sp_X8_from p1 (s.2.2 5) (s.2.2 4) (s.2.2 1) (s.2.2 6)) fun z => some (z.1, (s.1, s.2.1, (va_up (va_up s.2.2 1 z.2.1) 6 z.2.2)))
set_option maxHeartbeats 4000000 in
set_option maxRecDepth 100000 in
theorem L8_from (l : Launch) (E : wE) (md : Nat → Nat) (p1 : Int32) (s : MSt) (r : Int32) (s' : MSt) (h : S8_from p1 s = some (r, s')) : MWp l yX8_from cX8_from 2 (some .int) 1 E [.ref (md 0), .int p1] (MWd E md s) (some (.int r)) (MWd E md s') := by
  unfold S8_from at h
  obtain ⟨z, hz, h⟩ := bd_s h
  obtain ⟨rfl, rfl⟩ := Prod.mk.inj (Option.some.inj h)
  exact MWp.lift2 [true, false, true, false, false, true, true, true] 5 [0, 3, 2, 1, 4] [0, 3, 2, 1, 4] (MWp.ofW (c_X8_from l E (md 0) (md 1) (md 2) (md 3) (md 4) (md 5) (md 6) (md 7) (md 8) (md 9) p1 (s.1 0) (s.2.1 0) (s.2.1 1) (s.1 1) (s.1 2) (s.1 3) (s.1 4) (s.2.2 5) (s.2.2 4) (s.2.2 1) (s.2.2 6) z.1 z.2.1 z.2.2 hz) rfl) rfl (by decide +kernel) rfl rfl (by decide +kernel) rfl rfl
set_option maxHeartbeats 4000000 in
set_option maxRecDepth 100000 in
noncomputable def S7_status (p1 : Int32) (s : CSt) : Option (Int32 × CSt) := lt_ (sp_X7_status p1 (s.1 1) (s.1 2) (s.1 3)) fun z => some (z.1, ((va_up s.1 1 z.2), s.2.1, s.2.2.1, s.2.2.2.1, s.2.2.2.2.1, s.2.2.2.2.2.1, s.2.2.2.2.2.2))
set_option maxHeartbeats 4000000 in
set_option maxRecDepth 100000 in
theorem L7_status (l : Launch) (E : wE) (ad : Nat → Nat) (p1 : Int32) (s : CSt) (r : Int32) (s' : CSt) (h : S7_status p1 s = some (r, s')) : MWp l yX7_status cX7_status 2 (some .int) 1 E [.ref (ad 0), .int p1] (CW E ad s) (some (.int r)) (CW E ad s') := by
  unfold S7_status at h
  obtain ⟨z, hz, h⟩ := ltb_s h
  obtain ⟨rfl, rfl⟩ := Prod.mk.inj (Option.some.inj h)
  exact MWp.lift [true] (MWp.ofW (c_X7_status l E (ad 0) (ad 1) (ad 11) (ad 21) (ad 42) (ad 44) (ad 55) (spA ad s.2.2.2.2.2.1) (sbA ad s.2.2.2.2.2.1) (ad 61) p1 (s.1 0) (s.2.1 0) (s.2.1 1) (s.1 1) (s.1 2) (s.1 3) z.1 z.2 hz) rfl) rfl rfl rfl
set_option maxHeartbeats 4000000 in
set_option maxRecDepth 100000 in
noncomputable def S8_status (p1 : Int32) (s : MSt) : Option (Int32 × MSt) := Option.bind (sp_X8_status p1 (s.2.2 6)) fun z => some (z.1, (s.1, s.2.1, (va_up s.2.2 6 z.2)))
set_option maxHeartbeats 4000000 in
set_option maxRecDepth 100000 in
theorem L8_status (l : Launch) (E : wE) (md : Nat → Nat) (p1 : Int32) (s : MSt) (r : Int32) (s' : MSt) (h : S8_status p1 s = some (r, s')) : MWp l yX8_status cX8_status 2 (some .int) 1 E [.ref (md 0), .int p1] (MWd E md s) (some (.int r)) (MWd E md s') := by
  unfold S8_status at h
  obtain ⟨z, hz, h⟩ := bd_s h
  obtain ⟨rfl, rfl⟩ := Prod.mk.inj (Option.some.inj h)
  exact MWp.lift [true, false, false, false, false, false, false, true] (MWp.ofW (c_X8_status l E (md 0) (md 1) (md 2) (md 3) (md 4) (md 5) (md 6) (md 7) (md 8) (md 9) p1 (s.1 0) (s.2.1 0) (s.2.1 1) (s.1 1) (s.1 2) (s.1 3) (s.1 4) (s.2.2 6) z.1 z.2 hz) rfl) rfl rfl rfl
set_option maxHeartbeats 4000000 in
set_option maxRecDepth 100000 in
noncomputable def S7_count (p1 : Int32) (s : CSt) : Option (Int32 × CSt) := Option.bind (sp_X7_count p1 (s.1 1) (s.1 5) (s.1 6) (s.1 7) (s.1 8) (s.1 10) (s.2.2.1 1) (s.1 32)) fun z => some (z.1, ((va_up s.1 1 z.2), s.2.1, s.2.2.1, s.2.2.2.1, s.2.2.2.2.1, s.2.2.2.2.2.1, s.2.2.2.2.2.2))
set_option maxHeartbeats 4000000 in
set_option maxRecDepth 100000 in
theorem L7_count (l : Launch) (E : wE) (ad : Nat → Nat) (p1 : Int32) (s : CSt) (r : Int32) (s' : CSt) (h : S7_count p1 s = some (r, s')) : MWp l yX7_count cX7_count 2 (some .int) 3 E [.ref (ad 0), .int p1] (CW E ad s) (some (.int r)) (CW E ad s') := by
  unfold S7_count at h
  obtain ⟨z, hz, h⟩ := bd_s h
  obtain ⟨rfl, rfl⟩ := Prod.mk.inj (Option.some.inj h)
  exact MWp.lift [true, true, false, true, true, false, false, false, false, false, false, false, false, false, false, false, false, false, false, false, false, false, false, false, false, false, false, false, false, false, false, false, false, false, false, false, false, false, false, false, false, false, false, false, false, false, false, false, false, false, false, false, false, false, false, false, false, false, false, false, false, false, false, false, false, false, false, false, false, false, false, false, false, false, false, false, false, false, false, false, false, false, false, false, false, false, false, false, false, false, false, false, false, false, false, false, false, false, false, false, false, false, false, false, false, false, false, false, false, false, false, false, false, false, false, false, false, false, false, false, false, false, false, false, false, false, false, false, false, false, false, false, false, false, false, false, false, false, false, false, false, false, false, false, false, false, false, false, false, false, false, false, false, false, false, false, false, false, false, false, false, false, false, false, false, false, false, false, false, false, true] (MWp.ofW (c_X7_count l E (ad 0) (ad 1) (ad 11) (ad 21) (ad 42) (ad 44) (ad 55) (spA ad s.2.2.2.2.2.1) (sbA ad s.2.2.2.2.2.1) (ad 61) (ad 2) (ad 3) (ad 10) (ad 7) (ad 8) (ad 9) (ad 4) (ad 5) (ad 6) (ad 43) p1 (s.1 0) (s.2.1 0) (s.2.1 1) (s.1 1) (s.1 2) (s.1 3) (s.1 4) (s.1 5) (s.1 6) (s.1 7) (s.1 8) (s.1 9) (s.1 10) (s.2.2.1 1) (s.1 32) (s.1 33) (s.1 34) (s.1 35) (s.1 36) z.1 z.2 hz) rfl) rfl rfl rfl
set_option maxHeartbeats 4000000 in
set_option maxRecDepth 100000 in
noncomputable def S8_count (p1 : Int32) (s : MSt) : Option (Int32 × MSt) := Option.bind (sp_X8_count p1 (s.1 0) (s.2.2 6) (s.2.2 1)) fun z => some (z.1, (s.1, s.2.1, (va_up s.2.2 6 z.2)))
set_option maxHeartbeats 4000000 in
set_option maxRecDepth 100000 in
theorem L8_count (l : Launch) (E : wE) (md : Nat → Nat) (p1 : Int32) (s : MSt) (r : Int32) (s' : MSt) (h : S8_count p1 s = some (r, s')) : MWp l yX8_count cX8_count 2 (some .int) 2 E [.ref (md 0), .int p1] (MWd E md s) (some (.int r)) (MWd E md s') := by
  unfold S8_count at h
  obtain ⟨z, hz, h⟩ := bd_s h
  obtain ⟨rfl, rfl⟩ := Prod.mk.inj (Option.some.inj h)
  exact MWp.lift2 [true, false, true, false, false, false, false, true] 3 [0, 2, 1] [0, 2, 1] (MWp.ofW (c_X8_count l E (md 0) (md 1) (md 2) (md 3) (md 4) (md 5) (md 6) (md 7) (md 8) (md 9) p1 (s.1 0) (s.2.1 0) (s.2.1 1) (s.1 1) (s.1 2) (s.1 3) (s.1 4) (s.2.2 6) (s.2.2 1) z.1 z.2 hz) rfl) rfl (by decide +kernel) rfl rfl (by decide +kernel) rfl rfl
set_option maxHeartbeats 4000000 in
set_option maxRecDepth 100000 in
noncomputable def S7_digest (s : CSt) : Option (Int64 × CSt) := Option.bind (sp_X7_digest (s.2.1 0) (s.2.1 1) (s.1 1) (s.1 4) (s.1 5) (s.1 6) (s.1 7) (s.1 8) (s.1 9) (s.1 10) (s.2.2.1 1) (s.1 32) (s.2.2.1 0) (s.2.2.1 2) (s.2.2.1 3) (s.2.2.1 4) (s.2.2.1 5) (s.2.2.1 6)) fun z => some (z.1, ((va_up s.1 1 z.2), s.2.1, s.2.2.1, s.2.2.2.1, s.2.2.2.2.1, s.2.2.2.2.2.1, s.2.2.2.2.2.2))
set_option maxHeartbeats 4000000 in
set_option maxRecDepth 100000 in
theorem L7_digest (l : Launch) (E : wE) (ad : Nat → Nat) (s : CSt) (r : Int64) (s' : CSt) (h : S7_digest s = some (r, s')) : MWp l yX7_digest cX7_digest 4 (some .long) 4 E [.ref (ad 0)] (CW E ad s) (some (.long r)) (CW E ad s') := by
  unfold S7_digest at h
  obtain ⟨z, hz, h⟩ := bd_s h
  obtain ⟨rfl, rfl⟩ := Prod.mk.inj (Option.some.inj h)
  exact MWp.lift2 [true, true, true, true, true, true, true, true, true, true, false, false, false, false, false, false, false, false, false, false, false, false, false, false, false, false, false, false, false, false, false, false, false, false, false, false, false, false, false, false, false, false, false, false, false, false, false, false, false, false, false, false, false, false, false, false, false, false, false, false, false, false, false, false, false, false, false, false, false, false, false, false, false, false, false, false, false, false, false, false, false, false, false, false, false, false, false, false, false, false, false, false, false, false, false, false, false, false, false, false, false, false, false, false, false, false, false, false, false, false, false, false, false, false, false, false, false, false, false, false, false, false, false, false, false, false, false, false, false, false, false, false, false, false, false, false, false, false, false, false, false, false, false, false, false, false, false, false, false, false, false, false, false, false, false, false, false, false, false, false, false, false, false, false, false, false, false, false, false, false, true] 11 [0, 1, 3, 4, 10, 2, 5, 6, 7, 8, 9] [0, 1, 5, 2, 3, 6, 7, 8, 9, 10, 4] (MWp.ofW (c_X7_digest l E (ad 0) (ad 1) (ad 11) (ad 21) (ad 42) (ad 44) (ad 55) (spA ad s.2.2.2.2.2.1) (sbA ad s.2.2.2.2.2.1) (ad 61) (ad 2) (ad 3) (ad 10) (ad 7) (ad 8) (ad 9) (ad 4) (ad 5) (ad 6) (ad 43) (s.1 0) (s.2.1 0) (s.2.1 1) (s.1 1) (s.1 2) (s.1 3) (s.1 4) (s.1 5) (s.1 6) (s.1 7) (s.1 8) (s.1 9) (s.1 10) (s.2.2.1 1) (s.1 32) (s.1 33) (s.1 34) (s.1 35) (s.1 36) (s.2.2.1 0) (s.2.2.1 2) (s.2.2.1 3) (s.2.2.1 4) (s.2.2.1 5) (s.2.2.1 6) z.1 z.2 hz) rfl) rfl (by decide +kernel) rfl rfl (by decide +kernel) rfl rfl
set_option maxHeartbeats 4000000 in
set_option maxRecDepth 100000 in
noncomputable def S8_digest (s : MSt) : Option (Int64 × MSt) := Option.bind (sp_X8_digest (s.1 0) (s.2.1 0) (s.2.1 1) (s.2.2 1)) fun z => some (z, (s.1, s.2.1, s.2.2))
set_option maxHeartbeats 4000000 in
set_option maxRecDepth 100000 in
theorem L8_digest (l : Launch) (E : wE) (md : Nat → Nat) (s : MSt) (r : Int64) (s' : MSt) (h : S8_digest s = some (r, s')) : MWp l yX8_digest cX8_digest 5 (some .long) 2 E [.ref (md 0)] (MWd E md s) (some (.long r)) (MWd E md s') := by
  unfold S8_digest at h
  obtain ⟨z, hz, h⟩ := bd_s h
  obtain ⟨rfl, rfl⟩ := Prod.mk.inj (Option.some.inj h)
  exact MWp.lift [true, false, true] (MWp.ofW (MW.ofR (c_X8_digest l E (md 0) (md 1) (md 2) (md 3) (md 4) (md 5) (md 6) (md 7) (md 8) (md 9) (s.1 0) (s.2.1 0) (s.2.1 1) (s.1 1) (s.1 2) (s.1 3) (s.1 4) (s.2.2 1) z hz)) rfl) rfl rfl rfl
