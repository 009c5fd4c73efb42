set_option maxHeartbeats 4000000 in
set_option maxRecDepth 100000 in
noncomputable def S7_when (p1 : Int32) (s : CSt) : Option (Int32 × CSt) := Option.bind (sp_X7_when p1 (s.1 1) (s.1 4) (s.1 9) (s.1 10) (s.2.2.1 0)) fun z => some (z.1, ((va_up s.1 1 z.2), s.2.1, s.2.2.1, s.2.2.2.1, s.2.2.2.2.1, s.2.2.2.2.2.1, s.2.2.2.2.2.2))
set_option maxHeartbeats 4000000 in
set_option maxRecDepth 100000 in
theorem L7_when (l : Launch) (E : wE) (ad : Nat → Nat) (p1 : Int32) (s : CSt) (r : Int32) (s' : CSt) (h : S7_when p1 s = some (r, s')) : MWp l yX7_when cX7_when 4 (some .int) 4 E [.ref (ad 0), .int p1] (CW E ad s) (some (.int r)) (CW E ad s') := by
  unfold S7_when at h
  obtain ⟨z, hz, h⟩ := bd_s h
  obtain ⟨rfl, rfl⟩ := Prod.mk.inj (Option.some.inj h)
  exact MWp.lift2 [true, true, true, true] 4 [0, 1, 3, 2] [0, 1, 3, 2] (MWp.ofW (c_X7_when l E (ad 0) (ad 1) (ad 11) (ad 21) (ad 42) (ad 44) (ad 55) (spA ad s.2.2.2.2.2.1) (sbA ad s.2.2.2.2.2.1) (ad 61) (ad 2) (ad 3) (ad 10) (ad 7) (ad 8) (ad 9) (ad 4) (ad 5) (ad 6) p1 (s.1 0) (s.2.1 0) (s.2.1 1) (s.1 1) (s.1 2) (s.1 3) (s.1 4) (s.1 5) (s.1 6) (s.1 7) (s.1 8) (s.1 9) (s.1 10) (s.2.2.1 0) z.1 z.2 hz) rfl) rfl (by decide +kernel) rfl rfl (by decide +kernel) rfl rfl
set_option maxHeartbeats 4000000 in
set_option maxRecDepth 100000 in
noncomputable def S8_when (p1 : Int32) (s : MSt) : Option (Int32 × MSt) := Option.bind (sp_X8_when p1 (s.2.2 1) (s.2.2 3) (s.2.2 6)) fun z => some (z.1, (s.1, s.2.1, (va_up (va_up s.2.2 3 z.2.1) 6 z.2.2)))
set_option maxHeartbeats 4000000 in
set_option maxRecDepth 100000 in
theorem L8_when (l : Launch) (E : wE) (md : Nat → Nat) (p1 : Int32) (s : MSt) (r : Int32) (s' : MSt) (h : S8_when p1 s = some (r, s')) : MWp l yX8_when cX8_when 3 (some .int) 3 E [.ref (md 0), .int p1] (MWd E md s) (some (.int r)) (MWd E md s') := by
  unfold S8_when at h
  obtain ⟨z, hz, h⟩ := bd_s h
  obtain ⟨rfl, rfl⟩ := Prod.mk.inj (Option.some.inj h)
  exact MWp.lift [true, false, true, false, true, false, false, true] (MWp.ofW (c_X8_when l E (md 0) (md 1) (md 2) (md 3) (md 4) (md 5) (md 6) (md 7) (md 8) (md 9) p1 (s.1 0) (s.2.1 0) (s.2.1 1) (s.1 1) (s.1 2) (s.1 3) (s.1 4) (s.2.2 1) (s.2.2 3) (s.2.2 6) z.1 z.2.1 z.2.2 hz) rfl) rfl rfl rfl
set_option maxHeartbeats 4000000 in
set_option maxRecDepth 100000 in
noncomputable def S7_fits (p1 : Int32) (p2 : Int32) (p3 : Int32) (s : CSt) : Option (Int32 × CSt) := Option.bind (sp_X7_fits p1 p2 p3 (s.1 1) (s.1 9) (s.1 10) (s.2.2.1 1) (s.1 41) (s.1 42) (s.2.2.1 38) (s.2.2.1 2) (s.2.2.1 39) (s.2.2.1 3) (s.2.2.1 40)) fun z => some (z.1, ((va_up (va_up (va_up s.1 41 z.2.1) 42 z.2.2.1) 1 z.2.2.2.2.2.2), s.2.1, (va_up (va_up (va_up s.2.2.1 38 z.2.2.2.1) 39 z.2.2.2.2.1) 40 z.2.2.2.2.2.1), s.2.2.2.1, s.2.2.2.2.1, s.2.2.2.2.2.1, s.2.2.2.2.2.2))
set_option maxHeartbeats 4000000 in
set_option maxRecDepth 100000 in
theorem L7_fits (l : Launch) (E : wE) (ad : Nat → Nat) (p1 : Int32) (p2 : Int32) (p3 : Int32) (s : CSt) (r : Int32) (s' : CSt) (h : S7_fits p1 p2 p3 s = some (r, s')) : MWp l yX7_fits cX7_fits 4 (some .int) 4 E [.ref (ad 0), .int p1, .int p2, .int p3] (CW E ad s) (some (.int r)) (CW E ad s') := by
  unfold S7_fits at h
  obtain ⟨z, hz, h⟩ := bd_s h
  obtain ⟨rfl, rfl⟩ := Prod.mk.inj (Option.some.inj h)
  exact MWp.lift2 [true, true, false, true, true, true, true, false, false, false, false, false, false, false, false, false, false, false, false, false, false, false, false, false, false, false, false, false, false, false, false, false, false, false, false, false, false, false, false, false, false, false, false, false, false, false, false, false, false, false, false, false, false, false, false, false, false, false, false, false, false, false, false, false, false, false, false, false, false, false, false, false, false, false, false, false, false, false, false, false, false, false, false, false, false, false, false, false, false, false, false, false, false, false, false, false, false, false, false, false, false, false, false, false, false, false, false, false, false, false, false, false, false, false, false, false, false, false, false, false, false, false, false, false, false, false, false, false, false, false, false, false, false, false, false, false, false, false, false, false, false, false, false, false, false, false, false, false, false, false, false, false, false, false, false, false, false, false, false, false, false, false, false, false, false, false, false, false, false, false, false, false, false, false, false, false, false, false, false, false, false, false, false, true, true, true, true] 10 [0, 1, 2, 3, 6, 7, 4, 8, 5, 9] [0, 1, 2, 3, 6, 8, 4, 5, 7, 9] (MWp.ofW (c_X7_fits l E (ad 0) (ad 1) (ad 11) (ad 21) (ad 42) (ad 44) (ad 55) (spA ad s.2.2.2.2.2.1) (sbA ad s.2.2.2.2.2.1) (ad 61) (ad 2) (ad 3) (ad 10) (ad 7) (ad 8) (ad 9) (ad 4) (ad 5) (ad 6) (ad 56) (ad 57) (ad 58) p1 p2 p3 (s.1 0) (s.2.1 0) (s.2.1 1) (s.1 1) (s.1 2) (s.1 3) (s.1 4) (s.1 5) (s.1 6) (s.1 7) (s.1 8) (s.1 9) (s.1 10) (s.2.2.1 1) (s.1 41) (s.1 42) (s.2.2.1 38) (s.2.2.1 2) (s.2.2.1 39) (s.2.2.1 3) (s.2.2.1 40) z.1 z.2.1 z.2.2.1 z.2.2.2.1 z.2.2.2.2.1 z.2.2.2.2.2.1 z.2.2.2.2.2.2 hz) rfl) rfl (by decide +kernel) rfl rfl (by decide +kernel) rfl rfl
set_option maxHeartbeats 4000000 in
set_option maxRecDepth 100000 in
noncomputable def S8_fits (p1 : Int32) (p2 : Int32) (p3 : Int32) (s : MSt) : Option (Int32 × MSt) := Option.bind (sp_X8_fits p1 p2 p3 (s.2.2 6) (s.2.2 1) (s.2.2 3)) fun z => some (z.1, (s.1, s.2.1, (va_up (va_up s.2.2 6 z.2.1) 3 z.2.2)))
set_option maxHeartbeats 4000000 in
set_option maxRecDepth 100000 in
theorem L8_fits (l : Launch) (E : wE) (md : Nat → Nat) (p1 : Int32) (p2 : Int32) (p3 : Int32) (s : MSt) (r : Int32) (s' : MSt) (h : S8_fits p1 p2 p3 s = some (r, s')) : MWp l yX8_fits cX8_fits 4 (some .int) 4 E [.ref (md 0), .int p1, .int p2, .int p3] (MWd E md s) (some (.int r)) (MWd E md s') := by
  unfold S8_fits at h
  obtain ⟨z, hz, h⟩ := bd_s h
  obtain ⟨rfl, rfl⟩ := Prod.mk.inj (Option.some.inj h)
  exact MWp.lift2 [true, false, true, false, true, false, false, true] 4 [0, 3, 1, 2] [0, 2, 3, 1] (MWp.ofW (c_X8_fits l E (md 0) (md 1) (md 2) (md 3) (md 4) (md 5) (md 6) (md 7) (md 8) (md 9) p1 p2 p3 (s.1 0) (s.2.1 0) (s.2.1 1) (s.1 1) (s.1 2) (s.1 3) (s.1 4) (s.2.2 6) (s.2.2 1) (s.2.2 3) z.1 z.2.1 z.2.2 hz) rfl) rfl (by decide +kernel) rfl rfl (by decide +kernel) rfl rfl
set_option maxHeartbeats 4000000 in
set_option maxRecDepth 100000 in
noncomputable def S7_rolls (p1 : Int32) (s : CSt) : Option (Int32 × CSt) := Option.bind (sp_X7_rolls p1 (s.1 1) (s.2.2.1 1) (s.2.2.1 3)) fun z => some (z.1, ((va_up s.1 1 z.2), s.2.1, s.2.2.1, s.2.2.2.1, s.2.2.2.2.1, s.2.2.2.2.2.1, s.2.2.2.2.2.2))
set_option maxHeartbeats 4000000 in
set_option maxRecDepth 100000 in
theorem L7_rolls (l : Launch) (E : wE) (ad : Nat → Nat) (p1 : Int32) (s : CSt) (r : Int32) (s' : CSt) (h : S7_rolls p1 s = some (r, s')) : MWp l yX7_rolls cX7_rolls 6 (some .int) 3 E [.ref (ad 0), .int p1] (CW E ad s) (some (.int r)) (CW E ad s') := by
  unfold S7_rolls at h
  obtain ⟨z, hz, h⟩ := bd_s h
  obtain ⟨rfl, rfl⟩ := Prod.mk.inj (Option.some.inj h)
  exact MWp.lift [true, true, false, true, true, false, true] (MWp.ofW (c_X7_rolls l E (ad 0) (ad 1) (ad 11) (ad 21) (ad 42) (ad 44) (ad 55) (spA ad s.2.2.2.2.2.1) (sbA ad s.2.2.2.2.2.1) (ad 61) (ad 2) (ad 3) (ad 10) (ad 7) (ad 8) (ad 9) (ad 4) (ad 5) (ad 6) p1 (s.1 0) (s.2.1 0) (s.2.1 1) (s.1 1) (s.1 2) (s.1 3) (s.1 4) (s.1 5) (s.1 6) (s.1 7) (s.1 8) (s.1 9) (s.1 10) (s.2.2.1 1) (s.2.2.1 3) z.1 z.2 hz) rfl) rfl rfl rfl
set_option maxHeartbeats 4000000 in
set_option maxRecDepth 100000 in
noncomputable def S8_rolls (p1 : Int32) (s : MSt) : Option (Int32 × MSt) := Option.bind (sp_X8_rolls p1 (s.2.2 1) (s.2.2 6)) fun z => some (z.1, (s.1, s.2.1, (va_up s.2.2 6 z.2)))
set_option maxHeartbeats 4000000 in
set_option maxRecDepth 100000 in
theorem L8_rolls (l : Launch) (E : wE) (md : Nat → Nat) (p1 : Int32) (s : MSt) (r : Int32) (s' : MSt) (h : S8_rolls p1 s = some (r, s')) : MWp l yX8_rolls cX8_rolls 6 (some .int) 2 E [.ref (md 0), .int p1] (MWd E md s) (some (.int r)) (MWd E md s') := by
  unfold S8_rolls at h
  obtain ⟨z, hz, h⟩ := bd_s h
  obtain ⟨rfl, rfl⟩ := Prod.mk.inj (Option.some.inj h)
  exact MWp.lift [true, false, true, false, false, false, false, true] (MWp.ofW (c_X8_rolls l E (md 0) (md 1) (md 2) (md 3) (md 4) (md 5) (md 6) (md 7) (md 8) (md 9) p1 (s.1 0) (s.2.1 0) (s.2.1 1) (s.1 1) (s.1 2) (s.1 3) (s.1 4) (s.2.2 1) (s.2.2 6) z.1 z.2 hz) rfl) rfl rfl rfl
set_option maxHeartbeats 4000000 in
set_option maxRecDepth 100000 in
noncomputable def S7_lies (p1 : Int32) (s : CSt) : Option (Int32 × CSt) := Option.bind (sp_X7_lies p1 (s.1 1) (s.2.2.1 1) (s.2.2.1 3)) fun z => some (z.1, ((va_up s.1 1 z.2), s.2.1, s.2.2.1, s.2.2.2.1, s.2.2.2.2.1, s.2.2.2.2.2.1, s.2.2.2.2.2.2))
set_option maxHeartbeats 4000000 in
set_option maxRecDepth 100000 in
theorem L7_lies (l : Launch) (E : wE) (ad : Nat → Nat) (p1 : Int32) (s : CSt) (r : Int32) (s' : CSt) (h : S7_lies p1 s = some (r, s')) : MWp l yX7_lies cX7_lies 2 (some .int) 4 E [.ref (ad 0), .int p1] (CW E ad s) (some (.int r)) (CW E ad s') := by
  unfold S7_lies at h
  obtain ⟨z, hz, h⟩ := bd_s h
  obtain ⟨rfl, rfl⟩ := Prod.mk.inj (Option.some.inj h)
  exact MWp.lift [true, true, false, true, true, false, true] (MWp.ofW (c_X7_lies l E (ad 0) (ad 1) (ad 11) (ad 21) (ad 42) (ad 44) (ad 55) (spA ad s.2.2.2.2.2.1) (sbA ad s.2.2.2.2.2.1) (ad 61) (ad 2) (ad 3) (ad 10) (ad 7) (ad 8) (ad 9) (ad 4) (ad 5) (ad 6) p1 (s.1 0) (s.2.1 0) (s.2.1 1) (s.1 1) (s.1 2) (s.1 3) (s.1 4) (s.1 5) (s.1 6) (s.1 7) (s.1 8) (s.1 9) (s.1 10) (s.2.2.1 1) (s.2.2.1 3) z.1 z.2 hz) rfl) rfl rfl rfl
set_option maxHeartbeats 4000000 in
set_option maxRecDepth 100000 in
noncomputable def S8_lies (p1 : Int32) (s : MSt) : Option (Int32 × MSt) := Option.bind (sp_X8_lies p1 (s.2.2 1) (s.2.2 6)) fun z => some (z.1, (s.1, s.2.1, (va_up s.2.2 6 z.2)))
set_option maxHeartbeats 4000000 in
set_option maxRecDepth 100000 in
theorem L8_lies (l : Launch) (E : wE) (md : Nat → Nat) (p1 : Int32) (s : MSt) (r : Int32) (s' : MSt) (h : S8_lies p1 s = some (r, s')) : MWp l yX8_lies cX8_lies 5 (some .int) 3 E [.ref (md 0), .int p1] (MWd E md s) (some (.int r)) (MWd E md s') := by
  unfold S8_lies at h
  obtain ⟨z, hz, h⟩ := bd_s h
  obtain ⟨rfl, rfl⟩ := Prod.mk.inj (Option.some.inj h)
  exact MWp.lift [true, false, true, false, false, false, false, true] (MWp.ofW (c_X8_lies l E (md 0) (md 1) (md 2) (md 3) (md 4) (md 5) (md 6) (md 7) (md 8) (md 9) p1 (s.1 0) (s.2.1 0) (s.2.1 1) (s.1 1) (s.1 2) (s.1 3) (s.1 4) (s.2.2 1) (s.2.2 6) z.1 z.2 hz) rfl) rfl rfl rfl
set_option maxHeartbeats 4000000 in
set_option maxRecDepth 100000 in
noncomputable def S7_pass (p1 : Int32) (p2 : Int32) (s : CSt) : Option (Int32 × CSt) := Option.bind (sp_X7_pass p1 p2 (s.1 1) (s.2.2.1 1) (s.2.2.1 3)) fun z => some (z.1, ((va_up s.1 1 z.2), s.2.1, s.2.2.1, s.2.2.2.1, s.2.2.2.2.1, s.2.2.2.2.2.1, s.2.2.2.2.2.2))
set_option maxHeartbeats 4000000 in
set_option maxRecDepth 100000 in
theorem L7_pass (l : Launch) (E : wE) (ad : Nat → Nat) (p1 : Int32) (p2 : Int32) (s : CSt) (r : Int32) (s' : CSt) (h : S7_pass p1 p2 s = some (r, s')) : MWp l yX7_pass cX7_pass 5 (some .int) 4 E [.ref (ad 0), .int p1, .int p2] (CW E ad s) (some (.int r)) (CW E ad s') := by
  unfold S7_pass at h
  obtain ⟨z, hz, h⟩ := bd_s h
  obtain ⟨rfl, rfl⟩ := Prod.mk.inj (Option.some.inj h)
  exact MWp.lift [true, true, false, true, true, false, true] (MWp.ofW (c_X7_pass l E (ad 0) (ad 1) (ad 11) (ad 21) (ad 42) (ad 44) (ad 55) (spA ad s.2.2.2.2.2.1) (sbA ad s.2.2.2.2.2.1) (ad 61) (ad 2) (ad 3) (ad 10) (ad 7) (ad 8) (ad 9) (ad 4) (ad 5) (ad 6) p1 p2 (s.1 0) (s.2.1 0) (s.2.1 1) (s.1 1) (s.1 2) (s.1 3) (s.1 4) (s.1 5) (s.1 6) (s.1 7) (s.1 8) (s.1 9) (s.1 10) (s.2.2.1 1) (s.2.2.1 3) z.1 z.2 hz) rfl) rfl rfl rfl
set_option maxHeartbeats 4000000 in
set_option maxRecDepth 100000 in
noncomputable def S8_pass (p1 : Int32) (p2 : Int32) (s : MSt) : Option (Int32 × MSt) := Option.bind (sp_X8_pass p1 p2 (s.2.2 6) (s.2.2 1)) fun z => some (z.1, (s.1, s.2.1, (va_up s.2.2 6 z.2)))
set_option maxHeartbeats 4000000 in
set_option maxRecDepth 100000 in
theorem L8_pass (l : Launch) (E : wE) (md : Nat → Nat) (p1 : Int32) (p2 : Int32) (s : MSt) (r : Int32) (s' : MSt) (h : S8_pass p1 p2 s = some (r, s')) : MWp l yX8_pass cX8_pass 5 (some .int) 3 E [.ref (md 0), .int p1, .int p2] (MWd E md s) (some (.int r)) (MWd E md s') := by
  unfold S8_pass at h
  obtain ⟨z, hz, h⟩ := bd_s h
  obtain ⟨rfl, rfl⟩ := Prod.mk.inj (Option.some.inj h)
  exact MWp.lift2 [true, false, true, false, false, false, false, true] 3 [0, 2, 1] [0, 2, 1] (MWp.ofW (c_X8_pass l E (md 0) (md 1) (md 2) (md 3) (md 4) (md 5) (md 6) (md 7) (md 8) (md 9) p1 p2 (s.1 0) (s.2.1 0) (s.2.1 1) (s.1 1) (s.1 2) (s.1 3) (s.1 4) (s.2.2 6) (s.2.2 1) z.1 z.2 hz) rfl) rfl (by decide +kernel) rfl rfl (by decide +kernel) rfl rfl
set_option maxHeartbeats 4000000 in
set_option maxRecDepth 100000 in
noncomputable def S7_order (p1 : Int32) (p2 : Int32) (s : CSt) : Option (Int32 × CSt) := Option.bind (sp_X7_order p1 p2 (s.1 1) (s.1 37) (s.1 38) (s.2.2.1 31) (s.1 4) (s.1 9) (s.1 10) (s.2.2.1 32) (s.2.2.1 0) (s.1 39) (s.1 40) (s.2.2.1 1) (s.2.2.1 35) (s.2.2.1 2) (s.2.2.1 36) (s.2.2.1 3) (s.2.2.1 37) (s.2.2.1 33) (s.2.2.1 34) (s.2.2.1 30) (s.2.2.1 29)) fun z => some (z.1, ((va_up (va_up (va_up (va_up (va_up s.1 1 z.2.1) 37 z.2.2.1) 38 z.2.2.2.1) 39 z.2.2.2.2.2.2.1) 40 z.2.2.2.2.2.2.2.1), s.2.1, (va_up (va_up (va_up (va_up (va_up (va_up (va_up (va_up (va_up s.2.2.1 31 z.2.2.2.2.1) 32 z.2.2.2.2.2.1) 35 z.2.2.2.2.2.2.2.2.1) 36 z.2.2.2.2.2.2.2.2.2.1) 37 z.2.2.2.2.2.2.2.2.2.2.1) 33 z.2.2.2.2.2.2.2.2.2.2.2.1) 34 z.2.2.2.2.2.2.2.2.2.2.2.2.1) 30 z.2.2.2.2.2.2.2.2.2.2.2.2.2.1) 29 z.2.2.2.2.2.2.2.2.2.2.2.2.2.2), s.2.2.2.1, s.2.2.2.2.1, s.2.2.2.2.2.1, s.2.2.2.2.2.2))
set_option maxHeartbeats 4000000 in
set_option maxRecDepth 100000 in
theorem L7_order (l : Launch) (E : wE) (ad : Nat → Nat) (p1 : Int32) (p2 : Int32) (s : CSt) (r : Int32) (s' : CSt) (h : S7_order p1 p2 s = some (r, s')) : MWp l yX7_order cX7_order 3 (some .int) 8 E [.ref (ad 0), .int p1, .int p2] (CW E ad s) (some (.int r)) (CW E ad s') := by
  unfold S7_order at h
  obtain ⟨z, hz, h⟩ := bd_s h
  obtain ⟨rfl, rfl⟩ := Prod.mk.inj (Option.some.inj h)
  exact MWp.lift2 [true, true, true, true, true, true, true, false, false, false, false, false, false, false, false, false, false, false, false, false, false, false, false, false, false, false, false, false, false, false, false, false, false, false, false, false, false, false, false, false, false, false, false, false, false, false, false, false, false, false, false, false, false, false, false, false, false, false, false, false, false, false, false, false, false, false, false, false, false, false, false, false, false, false, false, false, false, false, false, false, false, false, false, false, false, false, false, false, false, false, false, false, false, false, false, false, false, false, false, false, false, false, false, false, false, false, false, false, false, false, false, false, false, false, false, false, false, false, false, false, false, false, false, false, false, false, false, false, false, false, false, false, false, false, false, false, false, false, false, false, false, false, false, false, false, false, false, false, false, false, false, false, false, false, false, false, false, false, false, false, false, false, false, false, false, false, false, false, false, false, false, false, true, true, true, true, true, true, true, true, true, true, true] 18 [0, 7, 10, 1, 3, 11, 2, 14, 4, 15, 5, 16, 6, 17, 12, 13, 9, 8] [0, 3, 6, 4, 8, 10, 12, 1, 17, 16, 2, 5, 14, 15, 7, 9, 11, 13] (MWp.ofW (c_X7_order l E (ad 0) (ad 1) (ad 11) (ad 21) (ad 42) (ad 44) (ad 55) (spA ad s.2.2.2.2.2.1) (sbA ad s.2.2.2.2.2.1) (ad 61) (ad 45) (ad 46) (ad 47) (ad 48) (ad 49) (ad 50) (ad 51) (ad 2) (ad 3) (ad 10) (ad 7) (ad 8) (ad 9) (ad 4) (ad 5) (ad 6) (ad 52) (ad 53) (ad 54) p1 p2 (s.1 0) (s.2.1 0) (s.2.1 1) (s.1 1) (s.1 2) (s.1 3) (s.1 37) (s.1 38) (s.2.2.1 31) (s.1 4) (s.1 5) (s.1 6) (s.1 7) (s.1 8) (s.1 9) (s.1 10) (s.2.2.1 32) (s.2.2.1 0) (s.1 39) (s.1 40) (s.2.2.1 1) (s.2.2.1 35) (s.2.2.1 2) (s.2.2.1 36) (s.2.2.1 3) (s.2.2.1 37) (s.2.2.1 33) (s.2.2.1 34) (s.2.2.1 30) (s.2.2.1 29) z.1 z.2.1 z.2.2.1 z.2.2.2.1 z.2.2.2.2.1 z.2.2.2.2.2.1 z.2.2.2.2.2.2.1 z.2.2.2.2.2.2.2.1 z.2.2.2.2.2.2.2.2.1 z.2.2.2.2.2.2.2.2.2.1 z.2.2.2.2.2.2.2.2.2.2.1 z.2.2.2.2.2.2.2.2.2.2.2.1 z.2.2.2.2.2.2.2.2.2.2.2.2.1 z.2.2.2.2.2.2.2.2.2.2.2.2.2.1 z.2.2.2.2.2.2.2.2.2.2.2.2.2.2 hz) rfl) rfl (by decide +kernel) rfl rfl (by decide +kernel) rfl rfl
set_option maxHeartbeats 4000000 in
set_option maxRecDepth 100000 in
noncomputable def S8_order (p1 : Int32) (p2 : Int32) (s : MSt) : Option (Int32 × MSt) := Option.bind (sp_X8_order p1 p2 (s.2.2 6) (s.2.2 7) (s.2.2 1) (s.2.2 3) (s.2.2 8)) fun z => some (z.1, (s.1, s.2.1, (va_up (va_up (va_up (va_up s.2.2 6 z.2.1) 7 z.2.2.1) 3 z.2.2.2.1) 8 z.2.2.2.2)))
set_option maxHeartbeats 4000000 in
set_option maxRecDepth 100000 in
theorem L8_order (l : Launch) (E : wE) (md : Nat → Nat) (p1 : Int32) (p2 : Int32) (s : MSt) (r : Int32) (s' : MSt) (h : S8_order p1 p2 s = some (r, s')) : MWp l yX8_order cX8_order 7 (some .int) 5 E [.ref (md 0), .int p1, .int p2] (MWd E md s) (some (.int r)) (MWd E md s') := by
  unfold S8_order at h
  obtain ⟨z, hz, h⟩ := bd_s h
  obtain ⟨rfl, rfl⟩ := Prod.mk.inj (Option.some.inj h)
  exact MWp.lift2 [true, false, true, false, true, false, false, true, true, true] 6 [0, 3, 4, 1, 2, 5] [0, 3, 4, 1, 2, 5] (MWp.ofW (c_X8_order l E (md 0) (md 1) (md 2) (md 3) (md 4) (md 5) (md 6) (md 7) (md 8) (md 9) p1 p2 (s.1 0) (s.2.1 0) (s.2.1 1) (s.1 1) (s.1 2) (s.1 3) (s.1 4) (s.2.2 6) (s.2.2 7) (s.2.2 1) (s.2.2 3) (s.2.2 8) z.1 z.2.1 z.2.2.1 z.2.2.2.1 z.2.2.2.2 hz) rfl) rfl (by decide +kernel) rfl rfl (by decide +kernel) rfl rfl
set_option maxHeartbeats 4000000 in
set_option maxRecDepth 100000 in
noncomputable def S7_council (p1 : Int32) (s : CSt) : Option (Int32 × CSt) := Option.bind (sp_X7_council p1 (s.1 1) (s.1 6) (s.1 9) (s.2.2.1 4)) fun z => some (z.1, ((va_up s.1 1 z.2), s.2.1, s.2.2.1, s.2.2.2.1, s.2.2.2.2.1, s.2.2.2.2.2.1, s.2.2.2.2.2.2))
set_option maxHeartbeats 4000000 in
set_option maxRecDepth 100000 in
theorem L7_council (l : Launch) (E : wE) (ad : Nat → Nat) (p1 : Int32) (s : CSt) (r : Int32) (s' : CSt) (h : S7_council p1 s = some (r, s')) : MWp l yX7_council cX7_council 3 (some .int) 2 E [.ref (ad 0), .int p1] (CW E ad s) (some (.int r)) (CW E ad s') := by
  unfold S7_council at h
  obtain ⟨z, hz, h⟩ := bd_s h
  obtain ⟨rfl, rfl⟩ := Prod.mk.inj (Option.some.inj h)
  exact MWp.lift [true, true, false, true, false, false, false, true] (MWp.ofW (c_X7_council l E (ad 0) (ad 1) (ad 11) (ad 21) (ad 42) (ad 44) (ad 55) (spA ad s.2.2.2.2.2.1) (sbA ad s.2.2.2.2.2.1) (ad 61) (ad 2) (ad 3) (ad 10) (ad 7) (ad 8) (ad 9) (ad 4) (ad 5) (ad 6) p1 (s.1 0) (s.2.1 0) (s.2.1 1) (s.1 1) (s.1 2) (s.1 3) (s.1 4) (s.1 5) (s.1 6) (s.1 7) (s.1 8) (s.1 9) (s.1 10) (s.2.2.1 4) z.1 z.2 hz) rfl) rfl rfl rfl
set_option maxHeartbeats 4000000 in
set_option maxRecDepth 100000 in
noncomputable def S8_council (p1 : Int32) (s : MSt) : Option (Int32 × MSt) := Option.bind (sp_X8_council p1 (s.2.2 1) (s.2.2 6)) fun z => some (z.1, (s.1, s.2.1, (va_up s.2.2 6 z.2)))
set_option maxHeartbeats 4000000 in
set_option maxRecDepth 100000 in
theorem L8_council (l : Launch) (E : wE) (md : Nat → Nat) (p1 : Int32) (s : MSt) (r : Int32) (s' : MSt) (h : S8_council p1 s = some (r, s')) : MWp l yX8_council cX8_council 3 (some .int) 2 E [.ref (md 0), .int p1] (MWd E md s) (some (.int r)) (MWd E md s') := by
  unfold S8_council at h
  obtain ⟨z, hz, h⟩ := bd_s h
  obtain ⟨rfl, rfl⟩ := Prod.mk.inj (Option.some.inj h)
  exact MWp.lift [true, false, true, false, false, false, false, true] (MWp.ofW (c_X8_council l E (md 0) (md 1) (md 2) (md 3) (md 4) (md 5) (md 6) (md 7) (md 8) (md 9) p1 (s.1 0) (s.2.1 0) (s.2.1 1) (s.1 1) (s.1 2) (s.1 3) (s.1 4) (s.2.2 1) (s.2.2 6) z.1 z.2 hz) rfl) rfl rfl rfl
set_option maxHeartbeats 4000000 in
set_option maxRecDepth 100000 in
noncomputable def S7_power (p1 : Int32) (s : CSt) : Option (Int32 × CSt) := Option.bind (sp_X7_power p1 (s.1 1) (s.1 6) (s.2.2.1 4)) fun z => some (z.1, ((va_up s.1 1 z.2), s.2.1, s.2.2.1, s.2.2.2.1, s.2.2.2.2.1, s.2.2.2.2.2.1, s.2.2.2.2.2.2))
set_option maxHeartbeats 4000000 in
set_option maxRecDepth 100000 in
theorem L7_power (l : Launch) (E : wE) (ad : Nat → Nat) (p1 : Int32) (s : CSt) (r : Int32) (s' : CSt) (h : S7_power p1 s = some (r, s')) : MWp l yX7_power cX7_power 5 (some .int) 2 E [.ref (ad 0), .int p1] (CW E ad s) (some (.int r)) (CW E ad s') := by
  unfold S7_power at h
  obtain ⟨z, hz, h⟩ := bd_s h
  obtain ⟨rfl, rfl⟩ := Prod.mk.inj (Option.some.inj h)
  exact MWp.lift [true, true, false, false, false, false, false, true] (MWp.ofW (c_X7_power l E (ad 0) (ad 1) (ad 11) (ad 21) (ad 42) (ad 44) (ad 55) (spA ad s.2.2.2.2.2.1) (sbA ad s.2.2.2.2.2.1) (ad 61) (ad 2) (ad 3) (ad 10) (ad 7) (ad 8) (ad 9) p1 (s.1 0) (s.2.1 0) (s.2.1 1) (s.1 1) (s.1 2) (s.1 3) (s.1 4) (s.1 5) (s.1 6) (s.1 7) (s.1 8) (s.2.2.1 4) z.1 z.2 hz) rfl) rfl rfl rfl
set_option maxHeartbeats 4000000 in
set_option maxRecDepth 100000 in
noncomputable def S8_power (p1 : Int32) (s : MSt) : Option (Int32 × MSt) := Option.bind (sp_X8_power p1 (s.2.2 1) (s.2.2 6)) fun z => some (z.1, (s.1, s.2.1, (va_up s.2.2 6 z.2)))
set_option maxHeartbeats 4000000 in
set_option maxRecDepth 100000 in
theorem L8_power (l : Launch) (E : wE) (md : Nat → Nat) (p1 : Int32) (s : MSt) (r : Int32) (s' : MSt) (h : S8_power p1 s = some (r, s')) : MWp l yX8_power cX8_power 5 (some .int) 2 E [.ref (md 0), .int p1] (MWd E md s) (some (.int r)) (MWd E md s') := by
  unfold S8_power at h
  obtain ⟨z, hz, h⟩ := bd_s h
  obtain ⟨rfl, rfl⟩ := Prod.mk.inj (Option.some.inj h)
  exact MWp.lift [true, false, true, false, false, false, false, true] (MWp.ofW (c_X8_power l E (md 0) (md 1) (md 2) (md 3) (md 4) (md 5) (md 6) (md 7) (md 8) (md 9) p1 (s.1 0) (s.2.1 0) (s.2.1 1) (s.1 1) (s.1 2) (s.1 3) (s.1 4) (s.2.2 1) (s.2.2 6) z.1 z.2 hz) rfl) rfl rfl rfl
set_option maxHeartbeats 4000000 in
set_option maxRecDepth 100000 in
noncomputable def S7_built (p1 : Int32) (p2 : Int32) (s : CSt) : Option (Int32 × CSt) := Option.bind (sp_X7_built p1 p2 (s.1 1) (s.2.2.1 0)) fun z => some (z.1, ((va_up s.1 1 z.2), s.2.1, s.2.2.1, s.2.2.2.1, s.2.2.2.2.1, s.2.2.2.2.2.1, s.2.2.2.2.2.2))
set_option maxHeartbeats 4000000 in
set_option maxRecDepth 100000 in
theorem L7_built (l : Launch) (E : wE) (ad : Nat → Nat) (p1 : Int32) (p2 : Int32) (s : CSt) (r : Int32) (s' : CSt) (h : S7_built p1 p2 s = some (r, s')) : MWp l yX7_built cX7_built 6 (some .int) 3 E [.ref (ad 0), .int p1, .int p2] (CW E ad s) (some (.int r)) (CW E ad s') := by
  unfold S7_built at h
  obtain ⟨z, hz, h⟩ := bd_s h
  obtain ⟨rfl, rfl⟩ := Prod.mk.inj (Option.some.inj h)
  exact MWp.lift [true, true, true] (MWp.ofW (c_X7_built l E (ad 0) (ad 1) (ad 11) (ad 21) (ad 42) (ad 44) (ad 55) (spA ad s.2.2.2.2.2.1) (sbA ad s.2.2.2.2.2.1) (ad 61) (ad 2) (ad 3) (ad 10) (ad 7) (ad 8) (ad 9) p1 p2 (s.1 0) (s.2.1 0) (s.2.1 1) (s.1 1) (s.1 2) (s.1 3) (s.1 4) (s.1 5) (s.1 6) (s.1 7) (s.1 8) (s.2.2.1 0) z.1 z.2 hz) rfl) rfl rfl rfl
set_option maxHeartbeats 4000000 in
set_option maxRecDepth 100000 in
noncomputable def S8_built (p1 : Int32) (p2 : Int32) (s : MSt) : Option (Int32 × MSt) := Option.bind (sp_X8_built p1 p2 (s.2.2 6) (s.2.2 1)) fun z => some (z.1, (s.1, s.2.1, (va_up s.2.2 6 z.2)))
set_option maxHeartbeats 4000000 in
set_option maxRecDepth 100000 in
theorem L8_built (l : Launch) (E : wE) (md : Nat → Nat) (p1 : Int32) (p2 : Int32) (s : MSt) (r : Int32) (s' : MSt) (h : S8_built p1 p2 s = some (r, s')) : MWp l yX8_built cX8_built 6 (some .int) 2 E [.ref (md 0), .int p1, .int p2] (MWd E md s) (some (.int r)) (MWd E md s') := by
  unfold S8_built at h
  obtain ⟨z, hz, h⟩ := bd_s h
  obtain ⟨rfl, rfl⟩ := Prod.mk.inj (Option.some.inj h)
  exact MWp.lift2 [true, false, true, false, false, false, false, true] 3 [0, 2, 1] [0, 2, 1] (MWp.ofW (c_X8_built l E (md 0) (md 1) (md 2) (md 3) (md 4) (md 5) (md 6) (md 7) (md 8) (md 9) p1 p2 (s.1 0) (s.2.1 0) (s.2.1 1) (s.1 1) (s.1 2) (s.1 3) (s.1 4) (s.2.2 6) (s.2.2 1) z.1 z.2 hz) rfl) rfl (by decide +kernel) rfl rfl (by decide +kernel) rfl rfl
set_option maxHeartbeats 4000000 in
set_option maxRecDepth 100000 in
noncomputable def S7_note (p1 : Int32) (p2 : Int32) (p3 : Int32) (p4 : Int32) (s : CSt) : Option (Int32 × CSt) := lt_ (sp_X7_note p1 p2 p3 p4 (s.1 1) (s.1 3) (s.1 7) (s.2.2.1 5)) fun z => some (z.1, ((va_up (va_up (va_up s.1 1 z.2.1) 7 z.2.2.1) 3 z.2.2.2.2), s.2.1, (va_up s.2.2.1 5 z.2.2.2.1), s.2.2.2.1, s.2.2.2.2.1, s.2.2.2.2.2.1, s.2.2.2.2.2.2))
set_option maxHeartbeats 4000000 in
set_option maxRecDepth 100000 in
theorem L7_note (l : Launch) (E : wE) (ad : Nat → Nat) (p1 : Int32) (p2 : Int32) (p3 : Int32) (p4 : Int32) (s : CSt) (r : Int32) (s' : CSt) (h : S7_note p1 p2 p3 p4 s = some (r, s')) : MWp l yX7_note cX7_note 6 (some .int) 2 E [.ref (ad 0), .int p1, .int p2, .int p3, .int p4] (CW E ad s) (some (.int r)) (CW E ad s') := by
  unfold S7_note at h
  obtain ⟨z, hz, h⟩ := ltb_s h
  obtain ⟨rfl, rfl⟩ := Prod.mk.inj (Option.some.inj h)
  exact MWp.lift [true, true, false, false, false, false, false, false, true] (MWp.ofW (c_X7_note l E (ad 0) (ad 1) (ad 11) (ad 21) (ad 42) (ad 44) (ad 55) (spA ad s.2.2.2.2.2.1) (sbA ad s.2.2.2.2.2.1) (ad 61) (ad 2) (ad 3) (ad 10) (ad 7) (ad 8) (ad 9) p1 p2 p3 p4 (s.1 0) (s.2.1 0) (s.2.1 1) (s.1 1) (s.1 2) (s.1 3) (s.1 4) (s.1 5) (s.1 6) (s.1 7) (s.1 8) (s.2.2.1 5) z.1 z.2.1 z.2.2.1 z.2.2.2.1 z.2.2.2.2 hz) rfl) rfl rfl rfl
set_option maxHeartbeats 4000000 in
set_option maxRecDepth 100000 in
noncomputable def S8_note (p1 : Int32) (p2 : Int32) (p3 : Int32) (p4 : Int32) (s : MSt) : Option (Int32 × MSt) := Option.bind (sp_X8_note p1 p2 p3 p4 (s.2.2 6) (s.2.2 1)) fun z => some (z.1, (s.1, s.2.1, (va_up (va_up s.2.2 6 z.2.1) 1 z.2.2)))
set_option maxHeartbeats 4000000 in
set_option maxRecDepth 100000 in
theorem L8_note (l : Launch) (E : wE) (md : Nat → Nat) (p1 : Int32) (p2 : Int32) (p3 : Int32) (p4 : Int32) (s : MSt) (r : Int32) (s' : MSt) (h : S8_note p1 p2 p3 p4 s = some (r, s')) : MWp l yX8_note cX8_note 6 (some .int) 2 E [.ref (md 0), .int p1, .int p2, .int p3, .int p4] (MWd E md s) (some (.int r)) (MWd E md s') := by
  unfold S8_note at h
  obtain ⟨z, hz, h⟩ := bd_s h
  obtain ⟨rfl, rfl⟩ := Prod.mk.inj (Option.some.inj h)
  exact MWp.lift2 [true, false, true, false, false, false, false, true] 3 [0, 2, 1] [0, 2, 1] (MWp.ofW (c_X8_note l E (md 0) (md 1) (md 2) (md 3) (md 4) (md 5) (md 6) (md 7) (md 8) (md 9) p1 p2 p3 p4 (s.1 0) (s.2.1 0) (s.2.1 1) (s.1 1) (s.1 2) (s.1 3) (s.1 4) (s.2.2 6) (s.2.2 1) z.1 z.2.1 z.2.2 hz) rfl) rfl (by decide +kernel) rfl rfl (by decide +kernel) rfl rfl
set_option maxHeartbeats 4000000 in
set_option maxRecDepth 100000 in
noncomputable def S7_mark (p1 : Int32) (p2 : Int32) (p3 : Int32) (p4 : Int32) (p5 : Int32) (s : CSt) : Option (Int32 × CSt) := lt_ (sp_X7_mark p1 p2 p3 p4 p5 (s.1 1) (s.1 3) (s.1 8) (s.2.2.1 6)) fun z => some (z.1, ((va_up (va_up (va_up s.1 8 z.2.1) 3 z.2.2.2.1) 1 z.2.2.2.2), s.2.1, (va_up s.2.2.1 6 z.2.2.1), s.2.2.2.1, s.2.2.2.2.1, s.2.2.2.2.2.1, s.2.2.2.2.2.2))
set_option maxHeartbeats 4000000 in
set_option maxRecDepth 100000 in
theorem L7_mark (l : Launch) (E : wE) (ad : Nat → Nat) (p1 : Int32) (p2 : Int32) (p3 : Int32) (p4 : Int32) (p5 : Int32) (s : CSt) (r : Int32) (s' : CSt) (h : S7_mark p1 p2 p3 p4 p5 s = some (r, s')) : MWp l yX7_mark cX7_mark 8 (some .int) 2 E [.ref (ad 0), .int p1, .int p2, .int p3, .int p4, .int p5] (CW E ad s) (some (.int r)) (CW E ad s') := by
  unfold S7_mark at h
  obtain ⟨z, hz, h⟩ := ltb_s h
  obtain ⟨rfl, rfl⟩ := Prod.mk.inj (Option.some.inj h)
  exact MWp.lift [true, true, false, false, false, false, false, false, false, true] (MWp.ofW (c_X7_mark l E (ad 0) (ad 1) (ad 11) (ad 21) (ad 42) (ad 44) (ad 55) (spA ad s.2.2.2.2.2.1) (sbA ad s.2.2.2.2.2.1) (ad 61) (ad 2) (ad 3) (ad 10) (ad 7) (ad 8) (ad 9) p1 p2 p3 p4 p5 (s.1 0) (s.2.1 0) (s.2.1 1) (s.1 1) (s.1 2) (s.1 3) (s.1 4) (s.1 5) (s.1 6) (s.1 7) (s.1 8) (s.2.2.1 6) z.1 z.2.1 z.2.2.1 z.2.2.2.1 z.2.2.2.2 hz) rfl) rfl rfl rfl
set_option maxHeartbeats 4000000 in
set_option maxRecDepth 100000 in
noncomputable def S8_mark (p1 : Int32) (p2 : Int32) (p3 : Int32) (p4 : Int32) (p5 : Int32) (s : MSt) : Option (Int32 × MSt) := Option.bind (sp_X8_mark p1 p2 p3 p4 p5 (s.2.2 6) (s.2.2 1)) fun z => some (z.1, (s.1, s.2.1, (va_up (va_up s.2.2 6 z.2.1) 1 z.2.2)))
set_option maxHeartbeats 4000000 in
set_option maxRecDepth 100000 in
theorem L8_mark (l : Launch) (E : wE) (md : Nat → Nat) (p1 : Int32) (p2 : Int32) (p3 : Int32) (p4 : Int32) (p5 : Int32) (s : MSt) (r : Int32) (s' : MSt) (h : S8_mark p1 p2 p3 p4 p5 s = some (r, s')) : MWp l yX8_mark cX8_mark 7 (some .int) 2 E [.ref (md 0), .int p1, .int p2, .int p3, .int p4, .int p5] (MWd E md s) (some (.int r)) (MWd E md s') := by
  unfold S8_mark at h
  obtain ⟨z, hz, h⟩ := bd_s h
  obtain ⟨rfl, rfl⟩ := Prod.mk.inj (Option.some.inj h)
  exact MWp.lift2 [true, false, true, false, false, false, false, true] 3 [0, 2, 1] [0, 2, 1] (MWp.ofW (c_X8_mark l E (md 0) (md 1) (md 2) (md 3) (md 4) (md 5) (md 6) (md 7) (md 8) (md 9) p1 p2 p3 p4 p5 (s.1 0) (s.2.1 0) (s.2.1 1) (s.1 1) (s.1 2) (s.1 3) (s.1 4) (s.2.2 6) (s.2.2 1) z.1 z.2.1 z.2.2 hz) rfl) rfl (by decide +kernel) rfl rfl (by decide +kernel) rfl rfl
set_option maxHeartbeats 4000000 in
set_option maxRecDepth 100000 in
noncomputable def S7_forget (p1 : Int32) (s : CSt) : Option (Int32 × CSt) := lt_ (sp_X7_forget p1 (s.1 1) (s.1 7) (s.1 8)) fun z => some (z.1, ((va_up (va_up (va_up s.1 7 z.2.1) 8 z.2.2.1) 1 z.2.2.2), s.2.1, s.2.2.1, s.2.2.2.1, s.2.2.2.2.1, s.2.2.2.2.2.1, s.2.2.2.2.2.2))
set_option maxHeartbeats 4000000 in
set_option maxRecDepth 100000 in
theorem L7_forget (l : Launch) (E : wE) (ad : Nat → Nat) (p1 : Int32) (s : CSt) (r : Int32) (s' : CSt) (h : S7_forget p1 s = some (r, s')) : MWp l yX7_forget cX7_forget 3 (some .int) 1 E [.ref (ad 0), .int p1] (CW E ad s) (some (.int r)) (CW E ad s') := by
  unfold S7_forget at h
  obtain ⟨z, hz, h⟩ := ltb_s h
  obtain ⟨rfl, rfl⟩ := Prod.mk.inj (Option.some.inj h)
  exact MWp.lift [true, true] (MWp.ofW (c_X7_forget l E (ad 0) (ad 1) (ad 11) (ad 21) (ad 42) (ad 44) (ad 55) (spA ad s.2.2.2.2.2.1) (sbA ad s.2.2.2.2.2.1) (ad 61) (ad 2) (ad 3) (ad 10) (ad 7) (ad 8) (ad 9) p1 (s.1 0) (s.2.1 0) (s.2.1 1) (s.1 1) (s.1 2) (s.1 3) (s.1 4) (s.1 5) (s.1 6) (s.1 7) (s.1 8) z.1 z.2.1 z.2.2.1 z.2.2.2 hz) rfl) rfl rfl rfl
set_option maxHeartbeats 4000000 in
set_option maxRecDepth 100000 in
noncomputable def S8_forget (p1 : Int32) (s : MSt) : Option (Int32 × MSt) := Option.bind (sp_X8_forget p1 (s.2.2 1) (s.2.2 6)) fun z => some (z.1, (s.1, s.2.1, (va_up (va_up s.2.2 1 z.2.1) 6 z.2.2)))
set_option maxHeartbeats 4000000 in
set_option maxRecDepth 100000 in
theorem L8_forget (l : Launch) (E : wE) (md : Nat → Nat) (p1 : Int32) (s : MSt) (r : Int32) (s' : MSt) (h : S8_forget p1 s = some (r, s')) : MWp l yX8_forget cX8_forget 4 (some .int) 1 E [.ref (md 0), .int p1] (MWd E md s) (some (.int r)) (MWd E md s') := by
  unfold S8_forget at h
  obtain ⟨z, hz, h⟩ := bd_s h
  obtain ⟨rfl, rfl⟩ := Prod.mk.inj (Option.some.inj h)
  exact MWp.lift [true, false, true, false, false, false, false, true] (MWp.ofW (c_X8_forget l E (md 0) (md 1) (md 2) (md 3) (md 4) (md 5) (md 6) (md 7) (md 8) (md 9) p1 (s.1 0) (s.2.1 0) (s.2.1 1) (s.1 1) (s.1 2) (s.1 3) (s.1 4) (s.2.2 1) (s.2.2 6) z.1 z.2.1 z.2.2 hz) rfl) rfl rfl rfl
set_option maxHeartbeats 4000000 in
set_option maxRecDepth 100000 in
noncomputable def S7_is (s : CSt) : Option (Int32 × CSt) := Option.bind (sp_X7_is (s.1 7) (s.2.2.1 5)) fun z => some (z, (s.1, s.2.1, s.2.2.1, s.2.2.2.1, s.2.2.2.2.1, s.2.2.2.2.2.1, s.2.2.2.2.2.2))
set_option maxHeartbeats 4000000 in
set_option maxRecDepth 100000 in
theorem L7_is (l : Launch) (E : wE) (ad : Nat → Nat) (s : CSt) (r : Int32) (s' : CSt) (h : S7_is s = some (r, s')) : MWp l yX7_is cX7_is 3 (some .int) 4 E [.ref (ad 0)] (CW E ad s) (some (.int r)) (CW E ad s') := by
  unfold S7_is at h
  obtain ⟨z, hz, h⟩ := bd_s h
  obtain ⟨rfl, rfl⟩ := Prod.mk.inj (Option.some.inj h)
  exact MWp.lift [true, true, false, false, false, false, false, false, true] (MWp.ofW (MW.ofR (c_X7_is l E (ad 0) (ad 1) (ad 11) (ad 21) (ad 42) (ad 44) (ad 55) (spA ad s.2.2.2.2.2.1) (sbA ad s.2.2.2.2.2.1) (ad 61) (ad 2) (ad 3) (ad 10) (ad 7) (ad 8) (ad 9) (s.1 0) (s.2.1 0) (s.2.1 1) (s.1 1) (s.1 2) (s.1 3) (s.1 4) (s.1 5) (s.1 6) (s.1 7) (s.1 8) (s.2.2.1 5) z hz)) rfl) rfl rfl rfl
set_option maxHeartbeats 4000000 in
set_option maxRecDepth 100000 in
noncomputable def S8_is (s : MSt) : Option (Int32 × MSt) := Option.bind (sp_X8_is (s.2.2 1)) fun z => some (z, (s.1, s.2.1, s.2.2))
set_option maxHeartbeats 4000000 in
set_option maxRecDepth 100000 in
theorem L8_is (l : Launch) (E : wE) (md : Nat → Nat) (s : MSt) (r : Int32) (s' : MSt) (h : S8_is s = some (r, s')) : MWp l yX8_is cX8_is 5 (some .int) 2 E [.ref (md 0)] (MWd E md s) (some (.int r)) (MWd E md s') := by
  unfold S8_is at h
  obtain ⟨z, hz, h⟩ := bd_s h
  obtain ⟨rfl, rfl⟩ := Prod.mk.inj (Option.some.inj h)
  exact MWp.lift [true, false, true] (MWp.ofW (MW.ofR (c_X8_is l E (md 0) (md 1) (md 2) (md 3) (md 4) (md 5) (md 6) (md 7) (md 8) (md 9) (s.1 0) (s.2.1 0) (s.2.1 1) (s.1 1) (s.1 2) (s.1 3) (s.1 4) (s.2.2 1) z hz)) rfl) rfl rfl rfl
