set_option maxHeartbeats 4000000 in
set_option maxRecDepth 100000 in
noncomputable def S7_town (p1 : Int32) (s : CSt) : Option (Int32 × CSt) := Option.bind (sp_X7_town p1 (s.1 1) (s.1 4) (s.1 5) (s.1 6) (s.1 7) (s.1 8) (s.1 9) (s.1 10) (s.2.2.1 1) (s.2.2.1 0)) fun z => some (z.1, ((va_up (va_up (va_up (va_up (va_up (va_up (va_up (va_up s.1 4 z.2.1) 5 z.2.2.1) 6 z.2.2.2.1) 7 z.2.2.2.2.1) 8 z.2.2.2.2.2.1) 9 z.2.2.2.2.2.2.1) 10 z.2.2.2.2.2.2.2.1) 1 z.2.2.2.2.2.2.2.2.2.2), s.2.1, (va_up (va_up s.2.2.1 1 z.2.2.2.2.2.2.2.2.1) 0 z.2.2.2.2.2.2.2.2.2.1), s.2.2.2.1, s.2.2.2.2.1, s.2.2.2.2.2.1, s.2.2.2.2.2.2))
set_option maxHeartbeats 4000000 in
set_option maxRecDepth 100000 in
theorem L7_town (l : Launch) (E : wE) (ad : Nat → Nat) (p1 : Int32) (s : CSt) (r : Int32) (s' : CSt) (h : S7_town p1 s = some (r, s')) : MWp l yX7_town cX7_town 3 (some .int) 3 E [.ref (ad 0), .int p1] (CW E ad s) (some (.int r)) (CW E ad s') := by
  unfold S7_town at h
  obtain ⟨z, hz, h⟩ := bd_s h
  obtain ⟨rfl, rfl⟩ := Prod.mk.inj (Option.some.inj h)
  exact MWp.lift2 [true, true, true, true, true] 5 [0, 1, 3, 4, 2] [0, 1, 4, 2, 3] (MWp.ofW (c_X7_town l E (ad 0) (ad 1) (ad 11) (ad 21) (ad 42) (ad 44) (ad 55) (spA ad s.2.2.2.2.2.1) (sbA ad s.2.2.2.2.2.1) (ad 61) (ad 2) (ad 3) (ad 10) (ad 7) (ad 8) (ad 9) (ad 4) (ad 5) (ad 6) p1 (s.1 0) (s.2.1 0) (s.2.1 1) (s.1 1) (s.1 2) (s.1 3) (s.1 4) (s.1 5) (s.1 6) (s.1 7) (s.1 8) (s.1 9) (s.1 10) (s.2.2.1 1) (s.2.2.1 0) z.1 z.2.1 z.2.2.1 z.2.2.2.1 z.2.2.2.2.1 z.2.2.2.2.2.1 z.2.2.2.2.2.2.1 z.2.2.2.2.2.2.2.1 z.2.2.2.2.2.2.2.2.1 z.2.2.2.2.2.2.2.2.2.1 z.2.2.2.2.2.2.2.2.2.2 hz) rfl) rfl (by decide +kernel) rfl rfl (by decide +kernel) rfl rfl
set_option maxHeartbeats 4000000 in
set_option maxRecDepth 100000 in
noncomputable def S8_town (p1 : Int32) (s : MSt) : Option (Int32 × MSt) := Option.bind (sp_X8_town p1 (s.2.2 1) (s.2.2 6)) fun z => some (z.1, (s.1, s.2.1, (va_up (va_up s.2.2 1 z.2.1) 6 z.2.2)))
set_option maxHeartbeats 4000000 in
set_option maxRecDepth 100000 in
theorem L8_town (l : Launch) (E : wE) (md : Nat → Nat) (p1 : Int32) (s : MSt) (r : Int32) (s' : MSt) (h : S8_town p1 s = some (r, s')) : MWp l yX8_town cX8_town 3 (some .int) 2 E [.ref (md 0), .int p1] (MWd E md s) (some (.int r)) (MWd E md s') := by
  unfold S8_town at h
  obtain ⟨z, hz, h⟩ := bd_s h
  obtain ⟨rfl, rfl⟩ := Prod.mk.inj (Option.some.inj h)
  exact MWp.lift [true, false, true, false, false, false, false, true] (MWp.ofW (c_X8_town l E (md 0) (md 1) (md 2) (md 3) (md 4) (md 5) (md 6) (md 7) (md 8) (md 9) p1 (s.1 0) (s.2.1 0) (s.2.1 1) (s.1 1) (s.1 2) (s.1 3) (s.1 4) (s.2.2 1) (s.2.2 6) z.1 z.2.1 z.2.2 hz) rfl) rfl rfl rfl
set_option maxHeartbeats 4000000 in
set_option maxRecDepth 100000 in
noncomputable def S7_pull (p1 : Int32) (p2 : Int32) (s : CSt) : Option (Int32 × CSt) := lt_ (sp_X7_pull p1 p2 (s.1 1) (s.1 5) (s.2.2.1 0)) fun z => some (z.1, ((va_up (va_up s.1 1 z.2.1) 5 z.2.2.1), s.2.1, (va_up s.2.2.1 0 z.2.2.2), s.2.2.2.1, s.2.2.2.2.1, s.2.2.2.2.2.1, s.2.2.2.2.2.2))
set_option maxHeartbeats 4000000 in
set_option maxRecDepth 100000 in
theorem L7_pull (l : Launch) (E : wE) (ad : Nat → Nat) (p1 : Int32) (p2 : Int32) (s : CSt) (r : Int32) (s' : CSt) (h : S7_pull p1 p2 s = some (r, s')) : MWp l yX7_pull cX7_pull 4 (some .int) 2 E [.ref (ad 0), .int p1, .int p2] (CW E ad s) (some (.int r)) (CW E ad s') := by
  unfold S7_pull at h
  obtain ⟨z, hz, h⟩ := ltb_s h
  obtain ⟨rfl, rfl⟩ := Prod.mk.inj (Option.some.inj h)
  exact MWp.lift [true, true, true] (MWp.ofW (c_X7_pull l E (ad 0) (ad 1) (ad 11) (ad 21) (ad 42) (ad 44) (ad 55) (spA ad s.2.2.2.2.2.1) (sbA ad s.2.2.2.2.2.1) (ad 61) (ad 2) (ad 3) (ad 10) (ad 7) (ad 8) (ad 9) p1 p2 (s.1 0) (s.2.1 0) (s.2.1 1) (s.1 1) (s.1 2) (s.1 3) (s.1 4) (s.1 5) (s.1 6) (s.1 7) (s.1 8) (s.2.2.1 0) z.1 z.2.1 z.2.2.1 z.2.2.2 hz) rfl) rfl rfl rfl
set_option maxHeartbeats 4000000 in
set_option maxRecDepth 100000 in
noncomputable def S8_pull (p1 : Int32) (p2 : Int32) (s : MSt) : Option (Int32 × MSt) := Option.bind (sp_X8_pull p1 p2 (s.2.2 6) (s.2.2 1)) fun z => some (z.1, (s.1, s.2.1, (va_up (va_up s.2.2 6 z.2.1) 1 z.2.2)))
set_option maxHeartbeats 4000000 in
set_option maxRecDepth 100000 in
theorem L8_pull (l : Launch) (E : wE) (md : Nat → Nat) (p1 : Int32) (p2 : Int32) (s : MSt) (r : Int32) (s' : MSt) (h : S8_pull p1 p2 s = some (r, s')) : MWp l yX8_pull cX8_pull 4 (some .int) 2 E [.ref (md 0), .int p1, .int p2] (MWd E md s) (some (.int r)) (MWd E md s') := by
  unfold S8_pull at h
  obtain ⟨z, hz, h⟩ := bd_s h
  obtain ⟨rfl, rfl⟩ := Prod.mk.inj (Option.some.inj h)
  exact MWp.lift2 [true, false, true, false, false, false, false, true] 3 [0, 2, 1] [0, 2, 1] (MWp.ofW (c_X8_pull l E (md 0) (md 1) (md 2) (md 3) (md 4) (md 5) (md 6) (md 7) (md 8) (md 9) p1 p2 (s.1 0) (s.2.1 0) (s.2.1 1) (s.1 1) (s.1 2) (s.1 3) (s.1 4) (s.2.2 6) (s.2.2 1) z.1 z.2.1 z.2.2 hz) rfl) rfl (by decide +kernel) rfl rfl (by decide +kernel) rfl rfl
set_option maxHeartbeats 4000000 in
set_option maxRecDepth 100000 in
noncomputable def S7_member (p1 : Int32) (s : CSt) : Option (Int32 × CSt) := lt_ (sp_X7_member p1 (s.1 1) (s.1 3) (s.1 5) (s.1 6) (s.2.2.1 4)) fun z => some (z.1, ((va_up (va_up (va_up (va_up s.1 5 z.2.1) 6 z.2.2.1) 3 z.2.2.2.2.1) 1 z.2.2.2.2.2), s.2.1, (va_up s.2.2.1 4 z.2.2.2.1), s.2.2.2.1, s.2.2.2.2.1, s.2.2.2.2.2.1, s.2.2.2.2.2.2))
set_option maxHeartbeats 4000000 in
set_option maxRecDepth 100000 in
theorem L7_member (l : Launch) (E : wE) (ad : Nat → Nat) (p1 : Int32) (s : CSt) (r : Int32) (s' : CSt) (h : S7_member p1 s = some (r, s')) : MWp l yX7_member cX7_member 3 (some .int) 2 E [.ref (ad 0), .int p1] (CW E ad s) (some (.int r)) (CW E ad s') := by
  unfold S7_member at h
  obtain ⟨z, hz, h⟩ := ltb_s h
  obtain ⟨rfl, rfl⟩ := Prod.mk.inj (Option.some.inj h)
  exact MWp.lift [true, true, false, false, false, false, false, true] (MWp.ofW (c_X7_member l E (ad 0) (ad 1) (ad 11) (ad 21) (ad 42) (ad 44) (ad 55) (spA ad s.2.2.2.2.2.1) (sbA ad s.2.2.2.2.2.1) (ad 61) (ad 2) (ad 3) (ad 10) (ad 7) (ad 8) (ad 9) p1 (s.1 0) (s.2.1 0) (s.2.1 1) (s.1 1) (s.1 2) (s.1 3) (s.1 4) (s.1 5) (s.1 6) (s.1 7) (s.1 8) (s.2.2.1 4) z.1 z.2.1 z.2.2.1 z.2.2.2.1 z.2.2.2.2.1 z.2.2.2.2.2 hz) rfl) rfl rfl rfl
set_option maxHeartbeats 4000000 in
set_option maxRecDepth 100000 in
noncomputable def S8_member (p1 : Int32) (s : MSt) : Option (Int32 × MSt) := Option.bind (sp_X8_member p1 (s.2.2 1) (s.2.2 6)) fun z => some (z.1, (s.1, s.2.1, (va_up (va_up s.2.2 1 z.2.1) 6 z.2.2)))
set_option maxHeartbeats 4000000 in
set_option maxRecDepth 100000 in
theorem L8_member (l : Launch) (E : wE) (md : Nat → Nat) (p1 : Int32) (s : MSt) (r : Int32) (s' : MSt) (h : S8_member p1 s = some (r, s')) : MWp l yX8_member cX8_member 2 (some .int) 2 E [.ref (md 0), .int p1] (MWd E md s) (some (.int r)) (MWd E md s') := by
  unfold S8_member at h
  obtain ⟨z, hz, h⟩ := bd_s h
  obtain ⟨rfl, rfl⟩ := Prod.mk.inj (Option.some.inj h)
  exact MWp.lift [true, false, true, false, false, false, false, true] (MWp.ofW (c_X8_member l E (md 0) (md 1) (md 2) (md 3) (md 4) (md 5) (md 6) (md 7) (md 8) (md 9) p1 (s.1 0) (s.2.1 0) (s.2.1 1) (s.1 1) (s.1 2) (s.1 3) (s.1 4) (s.2.2 1) (s.2.2 6) z.1 z.2.1 z.2.2 hz) rfl) rfl rfl rfl
set_option maxHeartbeats 4000000 in
set_option maxRecDepth 100000 in
noncomputable def S7_type (p1 : Int32) (s : CSt) : Option (Int32 × CSt) := lt_ (sp_X7_type p1 (s.1 1) (s.1 3) (s.1 32) (s.2.2.1 28)) fun z => some (z.1, ((va_up (va_up (va_up s.1 32 z.2.1) 3 z.2.2.2.1) 1 z.2.2.2.2), s.2.1, (va_up s.2.2.1 28 z.2.2.1), s.2.2.2.1, s.2.2.2.2.1, s.2.2.2.2.2.1, s.2.2.2.2.2.2))
set_option maxHeartbeats 4000000 in
set_option maxRecDepth 100000 in
theorem L7_type (l : Launch) (E : wE) (ad : Nat → Nat) (p1 : Int32) (s : CSt) (r : Int32) (s' : CSt) (h : S7_type p1 s = some (r, s')) : MWp l yX7_type cX7_type 2 (some .int) 1 E [.ref (ad 0), .int p1] (CW E ad s) (some (.int r)) (CW E ad s') := by
  unfold S7_type at h
  obtain ⟨z, hz, h⟩ := ltb_s h
  obtain ⟨rfl, rfl⟩ := Prod.mk.inj (Option.some.inj h)
  exact MWp.lift [true, false, false, false, false, false, false, false, false, false, false, false, false, false, false, false, false, false, false, false, false, false, false, false, false, false, false, false, false, false, false, false, false, false, false, false, false, false, false, false, false, false, false, false, false, false, false, false, false, false, false, false, false, false, false, false, false, false, false, false, false, false, false, false, false, false, false, false, false, false, false, false, false, false, false, false, false, false, false, false, false, false, false, false, false, false, false, false, false, false, false, false, false, false, false, false, false, false, false, false, false, false, false, false, false, false, false, false, false, false, false, false, false, false, false, false, false, false, false, false, false, false, false, false, false, false, false, false, false, false, false, false, false, false, false, false, false, false, false, false, false, false, false, false, false, false, false, false, false, false, false, false, false, false, false, false, false, false, false, false, false, false, false, false, false, false, false, false, false, false, true, true] (MWp.ofW (c_X7_type l E (ad 0) (ad 1) (ad 11) (ad 21) (ad 42) (ad 44) (ad 55) (spA ad s.2.2.2.2.2.1) (sbA ad s.2.2.2.2.2.1) (ad 61) (ad 43) p1 (s.1 0) (s.2.1 0) (s.2.1 1) (s.1 1) (s.1 2) (s.1 3) (s.1 32) (s.1 33) (s.1 34) (s.1 35) (s.1 36) (s.2.2.1 28) z.1 z.2.1 z.2.2.1 z.2.2.2.1 z.2.2.2.2 hz) rfl) rfl rfl rfl
set_option maxHeartbeats 4000000 in
set_option maxRecDepth 100000 in
noncomputable def S8_type (p1 : Int32) (s : MSt) : Option (Int32 × MSt) := Option.bind (sp_X8_type p1 (s.1 0) (s.2.2 0) (s.2.2 6)) fun z => some (z.1, ((va_up s.1 0 z.2.1), s.2.1, (va_up (va_up s.2.2 0 z.2.2.1) 6 z.2.2.2)))
set_option maxHeartbeats 4000000 in
set_option maxRecDepth 100000 in
theorem L8_type (l : Launch) (E : wE) (md : Nat → Nat) (p1 : Int32) (s : MSt) (r : Int32) (s' : MSt) (h : S8_type p1 s = some (r, s')) : MWp l yX8_type cX8_type 2 (some .int) 1 E [.ref (md 0), .int p1] (MWd E md s) (some (.int r)) (MWd E md s') := by
  unfold S8_type at h
  obtain ⟨z, hz, h⟩ := bd_s h
  obtain ⟨rfl, rfl⟩ := Prod.mk.inj (Option.some.inj h)
  exact MWp.lift [true, true, false, false, false, false, false, true] (MWp.ofW (c_X8_type l E (md 0) (md 1) (md 2) (md 3) (md 4) (md 5) (md 6) (md 7) (md 8) (md 9) p1 (s.1 0) (s.2.1 0) (s.2.1 1) (s.1 1) (s.1 2) (s.1 3) (s.1 4) (s.2.2 0) (s.2.2 6) z.1 z.2.1 z.2.2.1 z.2.2.2 hz) rfl) rfl rfl rfl
set_option maxHeartbeats 4000000 in
set_option maxRecDepth 100000 in
noncomputable def S7_clear (s : CSt) : Option (Int32 × CSt) := lt_ (sp_X7_clear (s.1 32)) fun z => some (z.1, ((va_up s.1 32 z.2), s.2.1, s.2.2.1, s.2.2.2.1, s.2.2.2.2.1, s.2.2.2.2.2.1, s.2.2.2.2.2.2))
set_option maxHeartbeats 4000000 in
set_option maxRecDepth 100000 in
theorem L7_clear (l : Launch) (E : wE) (ad : Nat → Nat) (s : CSt) (r : Int32) (s' : CSt) (h : S7_clear s = some (r, s')) : MWp l yX7_clear cX7_clear 2 (some .int) 0 E [.ref (ad 0)] (CW E ad s) (some (.int r)) (CW E ad s') := by
  unfold S7_clear at h
  obtain ⟨z, hz, h⟩ := ltb_s h
  obtain ⟨rfl, rfl⟩ := Prod.mk.inj (Option.some.inj h)
  exact MWp.lift [true, false, false, false, false, false, false, false, false, false, false, false, false, false, false, false, false, false, false, false, false, false, false, false, false, false, false, false, false, false, false, false, false, false, false, false, false, false, false, false, false, false, false, false, false, false, false, false, false, false, false, false, false, false, false, false, false, false, false, false, false, false, false, false, false, false, false, false, false, false, false, false, false, false, false, false, false, false, false, false, false, false, false, false, false, false, false, false, false, false, false, false, false, false, false, false, false, false, false, false, false, false, false, false, false, false, false, false, false, false, false, false, false, false, false, false, false, false, false, false, false, false, false, false, false, false, false, false, false, false, false, false, false, false, false, false, false, false, false, false, false, false, false, false, false, false, false, false, false, false, false, false, false, false, false, false, false, false, false, false, false, false, false, false, false, false, false, false, false, false, true] (MWp.ofW (c_X7_clear l E (ad 0) (ad 1) (ad 11) (ad 21) (ad 42) (ad 44) (ad 55) (spA ad s.2.2.2.2.2.1) (sbA ad s.2.2.2.2.2.1) (ad 61) (ad 43) (s.1 0) (s.2.1 0) (s.2.1 1) (s.1 1) (s.1 2) (s.1 3) (s.1 32) (s.1 33) (s.1 34) (s.1 35) (s.1 36) z.1 z.2 hz) rfl) rfl rfl rfl
set_option maxHeartbeats 4000000 in
set_option maxRecDepth 100000 in
noncomputable def S8_clear (s : MSt) : Option (Int32 × MSt) := lt_ (sp_X8_clear (s.1 0)) fun z => some (z.1, ((va_up s.1 0 z.2), s.2.1, s.2.2))
set_option maxHeartbeats 4000000 in
set_option maxRecDepth 100000 in
theorem L8_clear (l : Launch) (E : wE) (md : Nat → Nat) (s : MSt) (r : Int32) (s' : MSt) (h : S8_clear s = some (r, s')) : MWp l yX8_clear cX8_clear 2 (some .int) 0 E [.ref (md 0)] (MWd E md s) (some (.int r)) (MWd E md s') := by
  unfold S8_clear at h
  obtain ⟨z, hz, h⟩ := ltb_s h
  obtain ⟨rfl, rfl⟩ := Prod.mk.inj (Option.some.inj h)
  exact MWp.lift [true] (MWp.ofW (c_X8_clear l E (md 0) (md 1) (md 2) (md 3) (md 4) (md 5) (md 6) (md 7) (md 8) (md 9) (s.1 0) (s.2.1 0) (s.2.1 1) (s.1 1) (s.1 2) (s.1 3) (s.1 4) z.1 z.2 hz) rfl) rfl rfl rfl
set_option maxHeartbeats 4000000 in
set_option maxRecDepth 100000 in
noncomputable def S7_read (s : CSt) : Option (Int32 × CSt) := Option.bind (sp_X7_read (s.1 32) (s.1 36) (s.2.2.1 28) (s.1 11) (s.1 12) (s.1 13) (s.1 14) (s.1 15) (s.2.2.1 7) (s.1 16) (s.1 17) (s.2.2.1 8) (s.2.2.1 9) (s.2.2.1 10) (s.1 4) (s.1 5) (s.1 6) (s.1 7) (s.1 8) (s.2.2.1 0) (s.1 9) (s.1 10) (s.2.2.1 1) (s.2.2.1 2) (s.2.2.1 3) (s.2.2.1 4) (s.2.2.1 5) (s.2.2.1 6) (s.2.2.2.1 0) (s.2.2.2.1 1) (s.2.2.2.2.1 0) (s.2.2.2.2.1 1) (s.2.2.2.2.1 2) (s.2.2.1 11) (s.2.2.1 12) (s.2.2.1 13) (s.2.2.2.1 2) (s.2.2.2.1 3) (s.2.2.2.2.1 3) (s.2.2.2.2.1 4) (s.2.2.2.2.1 5)) fun z => some (z.1, ((va_up (va_up (va_up (va_up (va_up (va_up (va_up (va_up (va_up (va_up (va_up (va_up (va_up (va_up (va_up (va_up (va_up (va_up s.1 33 z.2.1) 34 z.2.2.1) 35 z.2.2.2.1) 36 z.2.2.2.2.1) 11 z.2.2.2.2.2.1) 12 z.2.2.2.2.2.2.1) 13 z.2.2.2.2.2.2.2.1) 14 z.2.2.2.2.2.2.2.2.1) 15 z.2.2.2.2.2.2.2.2.2.1) 16 z.2.2.2.2.2.2.2.2.2.2.2.1) 17 z.2.2.2.2.2.2.2.2.2.2.2.2.1) 4 z.2.2.2.2.2.2.2.2.2.2.2.2.2.2.2.2.1) 5 z.2.2.2.2.2.2.2.2.2.2.2.2.2.2.2.2.2.1) 6 z.2.2.2.2.2.2.2.2.2.2.2.2.2.2.2.2.2.2.1) 7 z.2.2.2.2.2.2.2.2.2.2.2.2.2.2.2.2.2.2.2.1) 8 z.2.2.2.2.2.2.2.2.2.2.2.2.2.2.2.2.2.2.2.2.1) 9 z.2.2.2.2.2.2.2.2.2.2.2.2.2.2.2.2.2.2.2.2.2.2.1) 10 z.2.2.2.2.2.2.2.2.2.2.2.2.2.2.2.2.2.2.2.2.2.2.2.1), s.2.1, (va_up (va_up (va_up (va_up (va_up (va_up (va_up (va_up (va_up (va_up (va_up s.2.2.1 7 z.2.2.2.2.2.2.2.2.2.2.1) 8 z.2.2.2.2.2.2.2.2.2.2.2.2.2.1) 9 z.2.2.2.2.2.2.2.2.2.2.2.2.2.2.1) 10 z.2.2.2.2.2.2.2.2.2.2.2.2.2.2.2.1) 0 z.2.2.2.2.2.2.2.2.2.2.2.2.2.2.2.2.2.2.2.2.2.1) 1 z.2.2.2.2.2.2.2.2.2.2.2.2.2.2.2.2.2.2.2.2.2.2.2.2.1) 2 z.2.2.2.2.2.2.2.2.2.2.2.2.2.2.2.2.2.2.2.2.2.2.2.2.2.1) 3 z.2.2.2.2.2.2.2.2.2.2.2.2.2.2.2.2.2.2.2.2.2.2.2.2.2.2.1) 4 z.2.2.2.2.2.2.2.2.2.2.2.2.2.2.2.2.2.2.2.2.2.2.2.2.2.2.2.1) 5 z.2.2.2.2.2.2.2.2.2.2.2.2.2.2.2.2.2.2.2.2.2.2.2.2.2.2.2.2.1) 6 z.2.2.2.2.2.2.2.2.2.2.2.2.2.2.2.2.2.2.2.2.2.2.2.2.2.2.2.2.2.1), (va_up (va_up s.2.2.2.1 0 z.2.2.2.2.2.2.2.2.2.2.2.2.2.2.2.2.2.2.2.2.2.2.2.2.2.2.2.2.2.2.1) 1 z.2.2.2.2.2.2.2.2.2.2.2.2.2.2.2.2.2.2.2.2.2.2.2.2.2.2.2.2.2.2.2.1), (va_up (va_up (va_up s.2.2.2.2.1 0 z.2.2.2.2.2.2.2.2.2.2.2.2.2.2.2.2.2.2.2.2.2.2.2.2.2.2.2.2.2.2.2.2.1) 1 z.2.2.2.2.2.2.2.2.2.2.2.2.2.2.2.2.2.2.2.2.2.2.2.2.2.2.2.2.2.2.2.2.2.1) 2 z.2.2.2.2.2.2.2.2.2.2.2.2.2.2.2.2.2.2.2.2.2.2.2.2.2.2.2.2.2.2.2.2.2.2), s.2.2.2.2.2.1, s.2.2.2.2.2.2))
set_option maxHeartbeats 4000000 in
set_option maxRecDepth 100000 in
theorem L7_read (l : Launch) (E : wE) (Z : sE) (ad : Nat → Nat) (s : CSt) (r : Int32) (s' : CSt) (h : S7_read s = some (r, s')) : MWs l yX7_read cX7_read 2 (some .int) 7 E Z [.ref (ad 0)] (CW E ad s) (some (.int r)) (CW E ad s') := by
  unfold S7_read at h
  obtain ⟨z, hz, h⟩ := bd_s h
  obtain ⟨rfl, rfl⟩ := Prod.mk.inj (Option.some.inj h)
  exact MWs.lift2 [true, true, true, true, true, true, true, true, true, true, true, true, true, true, true, true, true, true, true, true, true, true, true, true, true, true, true, true, true, true, true, true, true, true, true, true, true, true, true, true, true, true, true, true, true, true, true, true, true, true, true, true, true, true, true, true, true, true, true, true, true, true, true, true, true, true, true, true, true, true, true, true, true, true, true, true, true, true, true, true, true, true, true, true, true, false, false, false, false, false, false, false, false, false, false, false, false, false, false, false, false, false, false, false, false, false, false, false, false, false, false, false, false, false, false, false, false, false, false, false, false, false, false, false, false, false, false, false, false, false, false, false, false, false, false, false, false, false, false, false, false, false, false, false, false, false, false, false, false, false, false, false, false, false, false, false, false, false, false, false, false, false, false, false, false, false, false, false, false, false, true, true] 87 [0, 85, 86, 43, 44, 45, 46, 47, 48, 1, 2, 3, 4, 5, 6, 7, 8, 9, 10, 11, 12, 13, 14, 15, 16, 17, 18, 19, 20, 21, 22, 23, 24, 25, 26, 27, 28, 29, 30, 31, 32, 33, 34, 35, 36, 37, 38, 39, 40, 41, 42, 49, 50, 51, 52, 53, 54, 55, 56, 57, 58, 59, 60, 61, 62, 63, 64, 65, 66, 67, 68, 69, 70, 71, 72, 73, 74, 75, 76, 77, 78, 79, 80, 81, 82, 83, 84] [0, 9, 10, 11, 12, 13, 14, 15, 16, 17, 18, 19, 20, 21, 22, 23, 24, 25, 26, 27, 28, 29, 30, 31, 32, 33, 34, 35, 36, 37, 38, 39, 40, 41, 42, 43, 44, 45, 46, 47, 48, 49, 50, 3, 4, 5, 6, 7, 8, 51, 52, 53, 54, 55, 56, 57, 58, 59, 60, 61, 62, 63, 64, 65, 66, 67, 68, 69, 70, 71, 72, 73, 74, 75, 76, 77, 78, 79, 80, 81, 82, 83, 84, 85, 86, 1, 2] (c_X7_read l E Z (ad 0) (ad 1) (ad 11) (ad 21) (ad 42) (ad 44) (ad 55) (spA ad s.2.2.2.2.2.1) (sbA ad s.2.2.2.2.2.1) (ad 61) (ad 43) (ad 12) (ad 13) (ad 20) (ad 17) (ad 18) (ad 19) (ad 14) (ad 15) (ad 16) (ad 2) (ad 3) (ad 10) (ad 7) (ad 8) (ad 9) (ad 4) (ad 5) (ad 6) (s.1 0) (s.2.1 0) (s.2.1 1) (s.1 1) (s.1 2) (s.1 3) (s.1 32) (s.1 33) (s.1 34) (s.1 35) (s.1 36) (s.2.2.1 28) (s.1 11) (s.1 12) (s.1 13) (s.1 14) (s.1 15) (s.2.2.1 7) (s.1 16) (s.1 17) (s.2.2.1 8) (s.2.2.1 9) (s.2.2.1 10) (s.1 4) (s.1 5) (s.1 6) (s.1 7) (s.1 8) (s.2.2.1 0) (s.1 9) (s.1 10) (s.2.2.1 1) (s.2.2.1 2) (s.2.2.1 3) (s.2.2.1 4) (s.2.2.1 5) (s.2.2.1 6) (s.2.2.2.2.2.2 0) (s.2.2.2.2.2.2 1) (s.2.2.2.2.2.2 2) (s.2.2.2.2.2.2 3) (s.2.2.2.1 0) (s.2.2.2.1 1) (s.2.2.2.2.1 0) (s.2.2.2.2.1 1) (s.2.2.2.2.1 2) (s.2.2.1 11) (s.2.2.1 12) (s.2.2.1 13) (s.2.2.2.2.2.2 4) (s.2.2.2.2.2.2 5) (s.2.2.2.2.2.2 6) (s.2.2.2.2.2.2 7) (s.2.2.2.1 2) (s.2.2.2.1 3) (s.2.2.2.2.1 3) (s.2.2.2.2.1 4) (s.2.2.2.2.1 5) z.1 z.2.1 z.2.2.1 z.2.2.2.1 z.2.2.2.2.1 z.2.2.2.2.2.1 z.2.2.2.2.2.2.1 z.2.2.2.2.2.2.2.1 z.2.2.2.2.2.2.2.2.1 z.2.2.2.2.2.2.2.2.2.1 z.2.2.2.2.2.2.2.2.2.2.1 z.2.2.2.2.2.2.2.2.2.2.2.1 z.2.2.2.2.2.2.2.2.2.2.2.2.1 z.2.2.2.2.2.2.2.2.2.2.2.2.2.1 z.2.2.2.2.2.2.2.2.2.2.2.2.2.2.1 z.2.2.2.2.2.2.2.2.2.2.2.2.2.2.2.1 z.2.2.2.2.2.2.2.2.2.2.2.2.2.2.2.2.1 z.2.2.2.2.2.2.2.2.2.2.2.2.2.2.2.2.2.1 z.2.2.2.2.2.2.2.2.2.2.2.2.2.2.2.2.2.2.1 z.2.2.2.2.2.2.2.2.2.2.2.2.2.2.2.2.2.2.2.1 z.2.2.2.2.2.2.2.2.2.2.2.2.2.2.2.2.2.2.2.2.1 z.2.2.2.2.2.2.2.2.2.2.2.2.2.2.2.2.2.2.2.2.2.1 z.2.2.2.2.2.2.2.2.2.2.2.2.2.2.2.2.2.2.2.2.2.2.1 z.2.2.2.2.2.2.2.2.2.2.2.2.2.2.2.2.2.2.2.2.2.2.2.1 z.2.2.2.2.2.2.2.2.2.2.2.2.2.2.2.2.2.2.2.2.2.2.2.2.1 z.2.2.2.2.2.2.2.2.2.2.2.2.2.2.2.2.2.2.2.2.2.2.2.2.2.1 z.2.2.2.2.2.2.2.2.2.2.2.2.2.2.2.2.2.2.2.2.2.2.2.2.2.2.1 z.2.2.2.2.2.2.2.2.2.2.2.2.2.2.2.2.2.2.2.2.2.2.2.2.2.2.2.1 z.2.2.2.2.2.2.2.2.2.2.2.2.2.2.2.2.2.2.2.2.2.2.2.2.2.2.2.2.1 z.2.2.2.2.2.2.2.2.2.2.2.2.2.2.2.2.2.2.2.2.2.2.2.2.2.2.2.2.2.1 z.2.2.2.2.2.2.2.2.2.2.2.2.2.2.2.2.2.2.2.2.2.2.2.2.2.2.2.2.2.2.1 z.2.2.2.2.2.2.2.2.2.2.2.2.2.2.2.2.2.2.2.2.2.2.2.2.2.2.2.2.2.2.2.1 z.2.2.2.2.2.2.2.2.2.2.2.2.2.2.2.2.2.2.2.2.2.2.2.2.2.2.2.2.2.2.2.2.1 z.2.2.2.2.2.2.2.2.2.2.2.2.2.2.2.2.2.2.2.2.2.2.2.2.2.2.2.2.2.2.2.2.2.1 z.2.2.2.2.2.2.2.2.2.2.2.2.2.2.2.2.2.2.2.2.2.2.2.2.2.2.2.2.2.2.2.2.2.2 hz) rfl (by decide +kernel) rfl rfl (by decide +kernel) rfl rfl
set_option maxHeartbeats 4000000 in
set_option maxRecDepth 100000 in
noncomputable def S8_read (s : MSt) : Option (Int32 × MSt) := Option.bind (sp_X8_read (s.1 0) (s.1 2) (s.1 4) (s.2.2 2) (s.2.2 0) (s.2.2 1)) fun z => some (z.1, ((va_up (va_up (va_up (va_up s.1 1 z.2.1) 2 z.2.2.1) 3 z.2.2.2.1) 4 z.2.2.2.2.1), s.2.1, (va_up (va_up s.2.2 2 z.2.2.2.2.2.1) 1 z.2.2.2.2.2.2)))
set_option maxHeartbeats 4000000 in
set_option maxRecDepth 100000 in
theorem L8_read (l : Launch) (E : wE) (md : Nat → Nat) (s : MSt) (r : Int32) (s' : MSt) (h : S8_read s = some (r, s')) : MWp l yX8_read cX8_read 3 (some .int) 6 E [.ref (md 0)] (MWd E md s) (some (.int r)) (MWd E md s') := by
  unfold S8_read at h
  obtain ⟨z, hz, h⟩ := bd_s h
  obtain ⟨rfl, rfl⟩ := Prod.mk.inj (Option.some.inj h)
  exact MWp.lift2 [true, true, true, true] 4 [0, 3, 1, 2] [0, 2, 3, 1] (MWp.ofW (c_X8_read l E (md 0) (md 1) (md 2) (md 3) (md 4) (md 5) (md 6) (md 7) (md 8) (md 9) (s.1 0) (s.2.1 0) (s.2.1 1) (s.1 1) (s.1 2) (s.1 3) (s.1 4) (s.2.2 2) (s.2.2 0) (s.2.2 1) z.1 z.2.1 z.2.2.1 z.2.2.2.1 z.2.2.2.2.1 z.2.2.2.2.2.1 z.2.2.2.2.2.2 hz) rfl) rfl (by decide +kernel) rfl rfl (by decide +kernel) rfl rfl
set_option maxHeartbeats 4000000 in
set_option maxRecDepth 100000 in
noncomputable def S7_build (p1 : Int32) (p2 : Int32) (p3 : Int32) (s : CSt) : Option (Int32 × CSt) := Option.bind (sp_X7_build p1 p2 p3 (s.1 1) (s.1 3) (s.1 5) (s.1 9) (s.1 10) (s.2.2.1 1) (s.2.2.1 2) (s.2.2.1 3) (s.2.2.2.2.2.2 0) (s.2.2.2.2.2.2 1) (s.2.2.2.2.2.2 2) (s.2.2.2.2.2.2 3) (s.2.2.2.1 0) (s.2.2.2.1 1) (s.2.2.2.2.1 0) (s.2.2.2.2.1 1) (s.2.2.2.2.1 2)) fun z => some (z.1, ((va_up (va_up (va_up s.1 5 z.2.1) 3 z.2.2.2.2.2.2.2.2.2.2.2.2.2.2.1) 1 z.2.2.2.2.2.2.2.2.2.2.2.2.2.2.2), s.2.1, (va_up (va_up (va_up s.2.2.1 1 z.2.2.1) 2 z.2.2.2.1) 3 z.2.2.2.2.1), (va_up (va_up s.2.2.2.1 0 z.2.2.2.2.2.2.2.2.2.1) 1 z.2.2.2.2.2.2.2.2.2.2.1), (va_up (va_up (va_up s.2.2.2.2.1 0 z.2.2.2.2.2.2.2.2.2.2.2.1) 1 z.2.2.2.2.2.2.2.2.2.2.2.2.1) 2 z.2.2.2.2.2.2.2.2.2.2.2.2.2.1), s.2.2.2.2.2.1, (va_up (va_up (va_up (va_up s.2.2.2.2.2.2 0 z.2.2.2.2.2.1) 1 z.2.2.2.2.2.2.1) 2 z.2.2.2.2.2.2.2.1) 3 z.2.2.2.2.2.2.2.2.1)))
set_option maxHeartbeats 4000000 in
set_option maxRecDepth 100000 in
theorem L7_build (l : Launch) (E : wE) (ad : Nat → Nat) (p1 : Int32) (p2 : Int32) (p3 : Int32) (s : CSt) (r : Int32) (s' : CSt) (h : S7_build p1 p2 p3 s = some (r, s')) : MWp l yX7_build cX7_build 4 (some .int) 4 E [.ref (ad 0), .int p1, .int p2, .int p3] (CW E ad s) (some (.int r)) (CW E ad s') := by
  unfold S7_build at h
  obtain ⟨z, hz, h⟩ := bd_s h
  obtain ⟨rfl, rfl⟩ := Prod.mk.inj (Option.some.inj h)
  exact MWp.lift [true, true, false, true, true, true, true, false, false, false, true, true, true, true, true, true, true, true, true, true, true, true, true, true, true, true, true, true, true, true, true, true, true, true, true, true, true, true, true, true, true, true, true] (c_X7_build l E (ad 0) (ad 1) (ad 11) (ad 21) (ad 42) (ad 44) (ad 55) (spA ad s.2.2.2.2.2.1) (sbA ad s.2.2.2.2.2.1) (ad 61) (ad 2) (ad 3) (ad 10) (ad 7) (ad 8) (ad 9) (ad 4) (ad 5) (ad 6) p1 p2 p3 (s.1 0) (s.2.1 0) (s.2.1 1) (s.1 1) (s.1 2) (s.1 3) (s.1 4) (s.1 5) (s.1 6) (s.1 7) (s.1 8) (s.1 9) (s.1 10) (s.2.2.1 1) (s.2.2.1 2) (s.2.2.1 3) (s.2.2.2.2.2.2 0) (s.2.2.2.2.2.2 1) (s.2.2.2.2.2.2 2) (s.2.2.2.2.2.2 3) (s.2.2.2.1 0) (s.2.2.2.1 1) (s.2.2.2.2.1 0) (s.2.2.2.2.1 1) (s.2.2.2.2.1 2) z.1 z.2.1 z.2.2.1 z.2.2.2.1 z.2.2.2.2.1 z.2.2.2.2.2.1 z.2.2.2.2.2.2.1 z.2.2.2.2.2.2.2.1 z.2.2.2.2.2.2.2.2.1 z.2.2.2.2.2.2.2.2.2.1 z.2.2.2.2.2.2.2.2.2.2.1 z.2.2.2.2.2.2.2.2.2.2.2.1 z.2.2.2.2.2.2.2.2.2.2.2.2.1 z.2.2.2.2.2.2.2.2.2.2.2.2.2.1 z.2.2.2.2.2.2.2.2.2.2.2.2.2.2.1 z.2.2.2.2.2.2.2.2.2.2.2.2.2.2.2 hz) rfl rfl rfl
set_option maxHeartbeats 4000000 in
set_option maxRecDepth 100000 in
noncomputable def S8_build (p1 : Int32) (p2 : Int32) (p3 : Int32) (s : MSt) : Option (Int32 × MSt) := Option.bind (sp_X8_build p1 p2 p3 (s.2.2 6) (s.2.2 1)) fun z => some (z.1, (s.1, s.2.1, (va_up (va_up s.2.2 6 z.2.1) 1 z.2.2)))
set_option maxHeartbeats 4000000 in
set_option maxRecDepth 100000 in
theorem L8_build (l : Launch) (E : wE) (md : Nat → Nat) (p1 : Int32) (p2 : Int32) (p3 : Int32) (s : MSt) (r : Int32) (s' : MSt) (h : S8_build p1 p2 p3 s = some (r, s')) : MWp l yX8_build cX8_build 4 (some .int) 4 E [.ref (md 0), .int p1, .int p2, .int p3] (MWd E md s) (some (.int r)) (MWd E md s') := by
  unfold S8_build at h
  obtain ⟨z, hz, h⟩ := bd_s h
  obtain ⟨rfl, rfl⟩ := Prod.mk.inj (Option.some.inj h)
  exact MWp.lift2 [true, false, true, false, false, false, false, true] 3 [0, 2, 1] [0, 2, 1] (MWp.ofW (c_X8_build l E (md 0) (md 1) (md 2) (md 3) (md 4) (md 5) (md 6) (md 7) (md 8) (md 9) p1 p2 p3 (s.1 0) (s.2.1 0) (s.2.1 1) (s.1 1) (s.1 2) (s.1 3) (s.1 4) (s.2.2 6) (s.2.2 1) z.1 z.2.1 z.2.2 hz) rfl) rfl (by decide +kernel) rfl rfl (by decide +kernel) rfl rfl
set_option maxHeartbeats 4000000 in
set_option maxRecDepth 100000 in
noncomputable def S7_year (p1 : Int32) (s : CSt) : Option (Int32 × CSt) := Option.bind (sp_X7_year p1 (s.1 1) (s.1 4) (s.1 5) (s.1 9) (s.1 10) (s.2.2.1 1) (s.2.2.1 2) (s.2.2.1 3) (s.2.2.2.2.2.2 0) (s.2.2.2.2.2.2 1) (s.2.2.2.2.2.2 2) (s.2.2.2.2.2.2 3) (s.2.2.2.1 0) (s.2.2.2.1 1) (s.2.2.2.2.1 0) (s.2.2.2.2.1 1) (s.2.2.2.2.1 2) (s.2.2.1 0)) fun z => some (z.1, ((va_up (va_up (va_up (va_up s.1 5 z.2.1) 9 z.2.2.1) 10 z.2.2.2.1) 1 z.2.2.2.2.2.2.2.2.2.2.2.2.2), s.2.1, s.2.2.1, (va_up (va_up s.2.2.2.1 0 z.2.2.2.2.2.2.2.2.1) 1 z.2.2.2.2.2.2.2.2.2.1), (va_up (va_up (va_up s.2.2.2.2.1 0 z.2.2.2.2.2.2.2.2.2.2.1) 1 z.2.2.2.2.2.2.2.2.2.2.2.1) 2 z.2.2.2.2.2.2.2.2.2.2.2.2.1), s.2.2.2.2.2.1, (va_up (va_up (va_up (va_up s.2.2.2.2.2.2 0 z.2.2.2.2.1) 1 z.2.2.2.2.2.1) 2 z.2.2.2.2.2.2.1) 3 z.2.2.2.2.2.2.2.1)))
set_option maxHeartbeats 4000000 in
set_option maxRecDepth 100000 in
theorem L7_year (l : Launch) (E : wE) (ad : Nat → Nat) (p1 : Int32) (s : CSt) (r : Int32) (s' : CSt) (h : S7_year p1 s = some (r, s')) : MWp l yX7_year cX7_year 2 (some .int) 4 E [.ref (ad 0), .int p1] (CW E ad s) (some (.int r)) (CW E ad s') := by
  unfold S7_year at h
  obtain ⟨z, hz, h⟩ := bd_s h
  obtain ⟨rfl, rfl⟩ := Prod.mk.inj (Option.some.inj h)
  exact MWp.lift2 [true, true, true, true, true, true, true, false, false, false, true, true, true, true, true, true, true, true, true, true, true, true, true, true, true, true, true, true, true, true, true, true, true, true, true, true, true, true, true, true, true, true, true] 40 [0, 1, 3, 4, 5, 6, 7, 8, 9, 10, 11, 12, 13, 14, 15, 16, 17, 18, 19, 20, 21, 22, 23, 24, 25, 26, 27, 28, 29, 30, 31, 32, 33, 34, 35, 36, 37, 38, 39, 2] [0, 1, 39, 2, 3, 4, 5, 6, 7, 8, 9, 10, 11, 12, 13, 14, 15, 16, 17, 18, 19, 20, 21, 22, 23, 24, 25, 26, 27, 28, 29, 30, 31, 32, 33, 34, 35, 36, 37, 38] (c_X7_year l E (ad 0) (ad 1) (ad 11) (ad 21) (ad 42) (ad 44) (ad 55) (spA ad s.2.2.2.2.2.1) (sbA ad s.2.2.2.2.2.1) (ad 61) (ad 2) (ad 3) (ad 10) (ad 7) (ad 8) (ad 9) (ad 4) (ad 5) (ad 6) p1 (s.1 0) (s.2.1 0) (s.2.1 1) (s.1 1) (s.1 2) (s.1 3) (s.1 4) (s.1 5) (s.1 6) (s.1 7) (s.1 8) (s.1 9) (s.1 10) (s.2.2.1 1) (s.2.2.1 2) (s.2.2.1 3) (s.2.2.2.2.2.2 0) (s.2.2.2.2.2.2 1) (s.2.2.2.2.2.2 2) (s.2.2.2.2.2.2 3) (s.2.2.2.1 0) (s.2.2.2.1 1) (s.2.2.2.2.1 0) (s.2.2.2.2.1 1) (s.2.2.2.2.1 2) (s.2.2.1 0) z.1 z.2.1 z.2.2.1 z.2.2.2.1 z.2.2.2.2.1 z.2.2.2.2.2.1 z.2.2.2.2.2.2.1 z.2.2.2.2.2.2.2.1 z.2.2.2.2.2.2.2.2.1 z.2.2.2.2.2.2.2.2.2.1 z.2.2.2.2.2.2.2.2.2.2.1 z.2.2.2.2.2.2.2.2.2.2.2.1 z.2.2.2.2.2.2.2.2.2.2.2.2.1 z.2.2.2.2.2.2.2.2.2.2.2.2.2 hz) rfl (by decide +kernel) rfl rfl (by decide +kernel) rfl rfl
set_option maxHeartbeats 4000000 in
set_option maxRecDepth 100000 in
noncomputable def S8_year (p1 : Int32) (s : MSt) : Option (Int32 × MSt) := Option.bind (sp_X8_year p1 (s.2.2 1) (s.2.2 6)) fun z => some (z.1, (s.1, s.2.1, (va_up (va_up s.2.2 1 z.2.1) 6 z.2.2)))
set_option maxHeartbeats 4000000 in
set_option maxRecDepth 100000 in
theorem L8_year (l : Launch) (E : wE) (md : Nat → Nat) (p1 : Int32) (s : MSt) (r : Int32) (s' : MSt) (h : S8_year p1 s = some (r, s')) : MWp l yX8_year cX8_year 3 (some .int) 3 E [.ref (md 0), .int p1] (MWd E md s) (some (.int r)) (MWd E md s') := by
  unfold S8_year at h
  obtain ⟨z, hz, h⟩ := bd_s h
  obtain ⟨rfl, rfl⟩ := Prod.mk.inj (Option.some.inj h)
  exact MWp.lift [true, false, true, false, false, false, false, true] (MWp.ofW (c_X8_year l E (md 0) (md 1) (md 2) (md 3) (md 4) (md 5) (md 6) (md 7) (md 8) (md 9) p1 (s.1 0) (s.2.1 0) (s.2.1 1) (s.1 1) (s.1 2) (s.1 3) (s.1 4) (s.2.2 1) (s.2.2 6) z.1 z.2.1 z.2.2 hz) rfl) rfl rfl rfl
set_option maxHeartbeats 4000000 in
set_option maxRecDepth 100000 in
noncomputable def S7_undo (s : CSt) : Option (Int32 × CSt) := Option.bind (sp_X7_undo (s.1 2) (s.1 5) (s.1 9) (s.1 10) (s.2.2.1 1) (s.2.2.1 2) (s.2.2.1 3) (s.2.2.2.1 0) (s.2.2.2.1 1) (s.2.2.2.2.1 0) (s.2.2.2.2.1 1) (s.2.2.2.2.1 2)) fun z => some (z.1, ((va_up (va_up (va_up (va_up s.1 5 z.2.1) 9 z.2.2.1) 10 z.2.2.2.1) 2 z.2.2.2.2.2.2.2), s.2.1, (va_up (va_up (va_up s.2.2.1 1 z.2.2.2.2.1) 2 z.2.2.2.2.2.1) 3 z.2.2.2.2.2.2.1), s.2.2.2.1, s.2.2.2.2.1, s.2.2.2.2.2.1, s.2.2.2.2.2.2))
set_option maxHeartbeats 4000000 in
set_option maxRecDepth 100000 in
theorem L7_undo (l : Launch) (E : wE) (ad : Nat → Nat) (s : CSt) (r : Int32) (s' : CSt) (h : S7_undo s = some (r, s')) : MWp l yX7_undo cX7_undo 1 (some .int) 4 E [.ref (ad 0)] (CW E ad s) (some (.int r)) (CW E ad s') := by
  unfold S7_undo at h
  obtain ⟨z, hz, h⟩ := bd_s h
  obtain ⟨rfl, rfl⟩ := Prod.mk.inj (Option.some.inj h)
  exact MWp.lift [true, true, false, true, true, true, true, false, false, false, true, true, true, true, true, true, true, true, true, true, true, true, true, true, true, true, true, true, true, true, true, true, true, true, true, true, true, true, true, true, true, true, true] (MWp.ofW (c_X7_undo l E (ad 0) (ad 1) (ad 11) (ad 21) (ad 42) (ad 44) (ad 55) (spA ad s.2.2.2.2.2.1) (sbA ad s.2.2.2.2.2.1) (ad 61) (ad 2) (ad 3) (ad 10) (ad 7) (ad 8) (ad 9) (ad 4) (ad 5) (ad 6) (s.1 0) (s.2.1 0) (s.2.1 1) (s.1 1) (s.1 2) (s.1 3) (s.1 4) (s.1 5) (s.1 6) (s.1 7) (s.1 8) (s.1 9) (s.1 10) (s.2.2.1 1) (s.2.2.1 2) (s.2.2.1 3) (s.2.2.2.2.2.2 0) (s.2.2.2.2.2.2 1) (s.2.2.2.2.2.2 2) (s.2.2.2.2.2.2 3) (s.2.2.2.1 0) (s.2.2.2.1 1) (s.2.2.2.2.1 0) (s.2.2.2.2.1 1) (s.2.2.2.2.1 2) z.1 z.2.1 z.2.2.1 z.2.2.2.1 z.2.2.2.2.1 z.2.2.2.2.2.1 z.2.2.2.2.2.2.1 z.2.2.2.2.2.2.2 hz) rfl) rfl rfl rfl
set_option maxHeartbeats 4000000 in
set_option maxRecDepth 100000 in
noncomputable def S8_undo (s : MSt) : Option (Int32 × MSt) := Option.bind (sp_X8_undo (s.2.2 1) (s.2.2 6)) fun z => some (z.1, (s.1, s.2.1, (va_up (va_up s.2.2 1 z.2.1) 6 z.2.2)))
set_option maxHeartbeats 4000000 in
set_option maxRecDepth 100000 in
theorem L8_undo (l : Launch) (E : wE) (md : Nat → Nat) (s : MSt) (r : Int32) (s' : MSt) (h : S8_undo s = some (r, s')) : MWp l yX8_undo cX8_undo 1 (some .int) 1 E [.ref (md 0)] (MWd E md s) (some (.int r)) (MWd E md s') := by
  unfold S8_undo at h
  obtain ⟨z, hz, h⟩ := bd_s h
  obtain ⟨rfl, rfl⟩ := Prod.mk.inj (Option.some.inj h)
  exact MWp.lift [true, false, true, false, false, false, false, true] (MWp.ofW (c_X8_undo l E (md 0) (md 1) (md 2) (md 3) (md 4) (md 5) (md 6) (md 7) (md 8) (md 9) (s.1 0) (s.2.1 0) (s.2.1 1) (s.1 1) (s.1 2) (s.1 3) (s.1 4) (s.2.2 1) (s.2.2 6) z.1 z.2.1 z.2.2 hz) rfl) rfl rfl rfl
set_option maxHeartbeats 4000000 in
set_option maxRecDepth 100000 in
noncomputable def S7_now (p1 : Int32) (s : CSt) : Option (Int32 × CSt) := lt_ (sp_X7_now p1 (s.1 1) (s.1 4) (s.1 9) (s.1 10) (s.2.2.1 0)) fun z => some (z.1, ((va_up s.1 1 z.2), s.2.1, s.2.2.1, s.2.2.2.1, s.2.2.2.2.1, s.2.2.2.2.2.1, s.2.2.2.2.2.2))
set_option maxHeartbeats 4000000 in
set_option maxRecDepth 100000 in
theorem L7_now (l : Launch) (E : wE) (ad : Nat → Nat) (p1 : Int32) (s : CSt) (r : Int32) (s' : CSt) (h : S7_now p1 s = some (r, s')) : MWp l yX7_now cX7_now 2 (some .int) 2 E [.ref (ad 0), .int p1] (CW E ad s) (some (.int r)) (CW E ad s') := by
  unfold S7_now at h
  obtain ⟨z, hz, h⟩ := ltb_s h
  obtain ⟨rfl, rfl⟩ := Prod.mk.inj (Option.some.inj h)
  exact MWp.lift2 [true, true, true, true] 4 [0, 1, 3, 2] [0, 1, 3, 2] (MWp.ofW (c_X7_now l E (ad 0) (ad 1) (ad 11) (ad 21) (ad 42) (ad 44) (ad 55) (spA ad s.2.2.2.2.2.1) (sbA ad s.2.2.2.2.2.1) (ad 61) (ad 2) (ad 3) (ad 10) (ad 7) (ad 8) (ad 9) (ad 4) (ad 5) (ad 6) p1 (s.1 0) (s.2.1 0) (s.2.1 1) (s.1 1) (s.1 2) (s.1 3) (s.1 4) (s.1 5) (s.1 6) (s.1 7) (s.1 8) (s.1 9) (s.1 10) (s.2.2.1 0) z.1 z.2 hz) rfl) rfl (by decide +kernel) rfl rfl (by decide +kernel) rfl rfl
set_option maxHeartbeats 4000000 in
set_option maxRecDepth 100000 in
noncomputable def S8_now (p1 : Int32) (s : MSt) : Option (Int32 × MSt) := Option.bind (sp_X8_now p1 (s.2.2 1) (s.2.2 6)) fun z => some (z.1, (s.1, s.2.1, (va_up s.2.2 6 z.2)))
set_option maxHeartbeats 4000000 in
set_option maxRecDepth 100000 in
theorem L8_now (l : Launch) (E : wE) (md : Nat → Nat) (p1 : Int32) (s : MSt) (r : Int32) (s' : MSt) (h : S8_now p1 s = some (r, s')) : MWp l yX8_now cX8_now 2 (some .int) 1 E [.ref (md 0), .int p1] (MWd E md s) (some (.int r)) (MWd E md s') := by
  unfold S8_now at h
  obtain ⟨z, hz, h⟩ := bd_s h
  obtain ⟨rfl, rfl⟩ := Prod.mk.inj (Option.some.inj h)
  exact MWp.lift [true, false, true, false, false, false, false, true] (MWp.ofW (c_X8_now l E (md 0) (md 1) (md 2) (md 3) (md 4) (md 5) (md 6) (md 7) (md 8) (md 9) p1 (s.1 0) (s.2.1 0) (s.2.1 1) (s.1 1) (s.1 2) (s.1 3) (s.1 4) (s.2.2 1) (s.2.2 6) z.1 z.2 hz) rfl) rfl rfl rfl
set_option maxHeartbeats 4000000 in
set_option maxRecDepth 100000 in
noncomputable def S7_of (p1 : Int32) (p2 : Int32) (p3 : Int32) (s : CSt) : Option (Int32 × CSt) := Option.bind (sp_X7_of p1 p2 p3 (s.1 1) (s.2.2.1 1) (s.2.2.1 2) (s.2.2.1 3)) fun z => some (z.1, ((va_up s.1 1 z.2), s.2.1, s.2.2.1, s.2.2.2.1, s.2.2.2.2.1, s.2.2.2.2.2.1, s.2.2.2.2.2.2))
set_option maxHeartbeats 4000000 in
set_option maxRecDepth 100000 in
theorem L7_of (l : Launch) (E : wE) (ad : Nat → Nat) (p1 : Int32) (p2 : Int32) (p3 : Int32) (s : CSt) (r : Int32) (s' : CSt) (h : S7_of p1 p2 p3 s = some (r, s')) : MWp l yX7_of cX7_of 4 (some .int) 3 E [.ref (ad 0), .int p1, .int p2, .int p3] (CW E ad s) (some (.int r)) (CW E ad s') := by
  unfold S7_of at h
  obtain ⟨z, hz, h⟩ := bd_s h
  obtain ⟨rfl, rfl⟩ := Prod.mk.inj (Option.some.inj h)
  exact MWp.lift [true, true, false, true, true, true, true] (MWp.ofW (c_X7_of l E (ad 0) (ad 1) (ad 11) (ad 21) (ad 42) (ad 44) (ad 55) (spA ad s.2.2.2.2.2.1) (sbA ad s.2.2.2.2.2.1) (ad 61) (ad 2) (ad 3) (ad 10) (ad 7) (ad 8) (ad 9) (ad 4) (ad 5) (ad 6) p1 p2 p3 (s.1 0) (s.2.1 0) (s.2.1 1) (s.1 1) (s.1 2) (s.1 3) (s.1 4) (s.1 5) (s.1 6) (s.1 7) (s.1 8) (s.1 9) (s.1 10) (s.2.2.1 1) (s.2.2.1 2) (s.2.2.1 3) z.1 z.2 hz) rfl) rfl rfl rfl
set_option maxHeartbeats 4000000 in
set_option maxRecDepth 100000 in
noncomputable def S8_of (p1 : Int32) (p2 : Int32) (p3 : Int32) (s : MSt) : Option (Int32 × MSt) := Option.bind (sp_X8_of p1 p2 p3 (s.2.2 6) (s.2.2 1)) fun z => some (z.1, (s.1, s.2.1, (va_up s.2.2 6 z.2)))
set_option maxHeartbeats 4000000 in
set_option maxRecDepth 100000 in
theorem L8_of (l : Launch) (E : wE) (md : Nat → Nat) (p1 : Int32) (p2 : Int32) (p3 : Int32) (s : MSt) (r : Int32) (s' : MSt) (h : S8_of p1 p2 p3 s = some (r, s')) : MWp l yX8_of cX8_of 4 (some .int) 2 E [.ref (md 0), .int p1, .int p2, .int p3] (MWd E md s) (some (.int r)) (MWd E md s') := by
  unfold S8_of at h
  obtain ⟨z, hz, h⟩ := bd_s h
  obtain ⟨rfl, rfl⟩ := Prod.mk.inj (Option.some.inj h)
  exact MWp.lift2 [true, false, true, false, false, false, false, true] 3 [0, 2, 1] [0, 2, 1] (MWp.ofW (c_X8_of l E (md 0) (md 1) (md 2) (md 3) (md 4) (md 5) (md 6) (md 7) (md 8) (md 9) p1 p2 p3 (s.1 0) (s.2.1 0) (s.2.1 1) (s.1 1) (s.1 2) (s.1 3) (s.1 4) (s.2.2 6) (s.2.2 1) z.1 z.2 hz) rfl) rfl (by decide +kernel) rfl rfl (by decide +kernel) rfl rfl
set_option maxHeartbeats 4000000 in
set_option maxRecDepth 100000 in
noncomputable def S7_plot (p1 : Int32) (p2 : Int32) (s : CSt) : Option (Int32 × CSt) := Option.bind (sp_X7_plot p1 p2 (s.1 1) (s.2.2.1 1) (s.2.2.1 3) (s.2.2.1 2)) fun z => some (z.1, ((va_up s.1 1 z.2), s.2.1, s.2.2.1, s.2.2.2.1, s.2.2.2.2.1, s.2.2.2.2.2.1, s.2.2.2.2.2.2))
set_option maxHeartbeats 4000000 in
set_option maxRecDepth 100000 in
theorem L7_plot (l : Launch) (E : wE) (ad : Nat → Nat) (p1 : Int32) (p2 : Int32) (s : CSt) (r : Int32) (s' : CSt) (h : S7_plot p1 p2 s = some (r, s')) : MWp l yX7_plot cX7_plot 3 (some .int) 4 E [.ref (ad 0), .int p1, .int p2] (CW E ad s) (some (.int r)) (CW E ad s') := by
  unfold S7_plot at h
  obtain ⟨z, hz, h⟩ := bd_s h
  obtain ⟨rfl, rfl⟩ := Prod.mk.inj (Option.some.inj h)
  exact MWp.lift2 [true, true, false, true, true, true, true] 6 [0, 1, 2, 3, 5, 4] [0, 1, 2, 3, 5, 4] (MWp.ofW (c_X7_plot l E (ad 0) (ad 1) (ad 11) (ad 21) (ad 42) (ad 44) (ad 55) (spA ad s.2.2.2.2.2.1) (sbA ad s.2.2.2.2.2.1) (ad 61) (ad 2) (ad 3) (ad 10) (ad 7) (ad 8) (ad 9) (ad 4) (ad 5) (ad 6) p1 p2 (s.1 0) (s.2.1 0) (s.2.1 1) (s.1 1) (s.1 2) (s.1 3) (s.1 4) (s.1 5) (s.1 6) (s.1 7) (s.1 8) (s.1 9) (s.1 10) (s.2.2.1 1) (s.2.2.1 3) (s.2.2.1 2) z.1 z.2 hz) rfl) rfl (by decide +kernel) rfl rfl (by decide +kernel) rfl rfl
set_option maxHeartbeats 4000000 in
set_option maxRecDepth 100000 in
noncomputable def S8_plot (p1 : Int32) (p2 : Int32) (s : MSt) : Option (Int32 × MSt) := Option.bind (sp_X8_plot p1 p2 (s.2.2 6) (s.2.2 1)) fun z => some (z.1, (s.1, s.2.1, (va_up s.2.2 6 z.2)))
set_option maxHeartbeats 4000000 in
set_option maxRecDepth 100000 in
theorem L8_plot (l : Launch) (E : wE) (md : Nat → Nat) (p1 : Int32) (p2 : Int32) (s : MSt) (r : Int32) (s' : MSt) (h : S8_plot p1 p2 s = some (r, s')) : MWp l yX8_plot cX8_plot 3 (some .int) 2 E [.ref (md 0), .int p1, .int p2] (MWd E md s) (some (.int r)) (MWd E md s') := by
  unfold S8_plot at h
  obtain ⟨z, hz, h⟩ := bd_s h
  obtain ⟨rfl, rfl⟩ := Prod.mk.inj (Option.some.inj h)
  exact MWp.lift2 [true, false, true, false, false, false, false, true] 3 [0, 2, 1] [0, 2, 1] (MWp.ofW (c_X8_plot l E (md 0) (md 1) (md 2) (md 3) (md 4) (md 5) (md 6) (md 7) (md 8) (md 9) p1 p2 (s.1 0) (s.2.1 0) (s.2.1 1) (s.1 1) (s.1 2) (s.1 3) (s.1 4) (s.2.2 6) (s.2.2 1) z.1 z.2 hz) rfl) rfl (by decide +kernel) rfl rfl (by decide +kernel) rfl rfl
set_option maxHeartbeats 4000000 in
set_option maxRecDepth 100000 in
noncomputable def S7_then (p1 : Int32) (s : CSt) : Option (Int32 × CSt) := Option.bind (sp_X7_then p1 (s.1 1) (s.1 4) (s.1 9) (s.1 10) (s.2.2.1 0)) fun z => some (z.1, ((va_up s.1 1 z.2), s.2.1, s.2.2.1, s.2.2.2.1, s.2.2.2.2.1, s.2.2.2.2.2.1, s.2.2.2.2.2.2))
set_option maxHeartbeats 4000000 in
set_option maxRecDepth 100000 in
theorem L7_then (l : Launch) (E : wE) (ad : Nat → Nat) (p1 : Int32) (s : CSt) (r : Int32) (s' : CSt) (h : S7_then p1 s = some (r, s')) : MWp l yX7_then cX7_then 4 (some .int) 4 E [.ref (ad 0), .int p1] (CW E ad s) (some (.int r)) (CW E ad s') := by
  unfold S7_then at h
  obtain ⟨z, hz, h⟩ := bd_s h
  obtain ⟨rfl, rfl⟩ := Prod.mk.inj (Option.some.inj h)
  exact MWp.lift2 [true, true, true, true] 4 [0, 1, 3, 2] [0, 1, 3, 2] (MWp.ofW (c_X7_then l E (ad 0) (ad 1) (ad 11) (ad 21) (ad 42) (ad 44) (ad 55) (spA ad s.2.2.2.2.2.1) (sbA ad s.2.2.2.2.2.1) (ad 61) (ad 2) (ad 3) (ad 10) (ad 7) (ad 8) (ad 9) (ad 4) (ad 5) (ad 6) p1 (s.1 0) (s.2.1 0) (s.2.1 1) (s.1 1) (s.1 2) (s.1 3) (s.1 4) (s.1 5) (s.1 6) (s.1 7) (s.1 8) (s.1 9) (s.1 10) (s.2.2.1 0) z.1 z.2 hz) rfl) rfl (by decide +kernel) rfl rfl (by decide +kernel) rfl rfl
set_option maxHeartbeats 4000000 in
set_option maxRecDepth 100000 in
noncomputable def S8_then (p1 : Int32) (s : MSt) : Option (Int32 × MSt) := Option.bind (sp_X8_then p1 (s.2.2 1) (s.2.2 3) (s.2.2 6)) fun z => some (z.1, (s.1, s.2.1, (va_up (va_up s.2.2 3 z.2.1) 6 z.2.2)))
set_option maxHeartbeats 4000000 in
set_option maxRecDepth 100000 in
theorem L8_then (l : Launch) (E : wE) (md : Nat → Nat) (p1 : Int32) (s : MSt) (r : Int32) (s' : MSt) (h : S8_then p1 s = some (r, s')) : MWp l yX8_then cX8_then 3 (some .int) 3 E [.ref (md 0), .int p1] (MWd E md s) (some (.int r)) (MWd E md s') := by
  unfold S8_then at h
  obtain ⟨z, hz, h⟩ := bd_s h
  obtain ⟨rfl, rfl⟩ := Prod.mk.inj (Option.some.inj h)
  exact MWp.lift [true, false, true, false, true, false, false, true] (MWp.ofW (c_X8_then l E (md 0) (md 1) (md 2) (md 3) (md 4) (md 5) (md 6) (md 7) (md 8) (md 9) p1 (s.1 0) (s.2.1 0) (s.2.1 1) (s.1 1) (s.1 2) (s.1 3) (s.1 4) (s.2.2 1) (s.2.2 3) (s.2.2 6) z.1 z.2.1 z.2.2 hz) rfl) rfl rfl rfl
