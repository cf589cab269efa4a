abbrev pV (yy : Nat → ClassId) (h0 an : Nat) (B B2 : Nat → Nat) (F : jF) (G : jG) (F2 : jF) (G2 : jG) (M : jF) : va_W := pW yy h0 an B B2 F G F2 G2 (M 82) (M 80 0) (M 81 0)
def gX11_needRange (p1 : Int32) (p2 : Int32) (p3 : Int32) : Nat := (if p1 < p2 then 2 else (if p1 ≤ p3 then 0 else 2))
abbrev rmX11_needRange : Room := { frames := 6, cells := 1, slots := 6, locals := 90 }
def gX11_needDifferent (p1 : Int32) (p2 : Int32) : Nat := (if p1 = p2 then 2 else 0)
abbrev rmX11_needDifferent : Room := { frames := 6, cells := 1, slots := 6, locals := 90 }
def gX11_needState (p1 : Int32) : Nat := (if p1 = 0 then 3 else 0)
abbrev rmX11_needState : Room := { frames := 6, cells := 1, slots := 6, locals := 90 }
def gX11_needRoom (p1 : Int32) (p2 : Int32) : Nat := (if p1 < p2 then 0 else 3)
abbrev rmX11_needRoom : Room := { frames := 6, cells := 1, slots := 6, locals := 90 }
def gX11_needMoney (F : jF) (G : jG) (p1 : Int32) : Nat := (if p1 ≤ (F 62 0) then 0 else 3)
abbrev rmX11_needMoney : Room := { frames := 6, cells := 1, slots := 6, locals := 90 }
def gX11_needEnd (F : jF) (G : jG) (p1 : Int32) : Nat := bv (gX10_isEnd F G  p1) (fun x2 : Int32 => (if x2 = 0 then 1 else 0))
def okX11_needEnd (F : jF) (G : jG) (p1 : Int32) : Prop := (okX10_isEnd F G  p1)
abbrev rmX11_needEnd : Room := { frames := 6, cells := 1, slots := 6, locals := 90 }
def gX11_needBasin (F : jF) (G : jG) (p1 : Int32) : Option Nat := bv (gX10_basinAt F G  p1) (fun o2 : Option Nat => om o2 none (fun k3 : Nat => some k3))
def okX11_needBasin (F : jF) (G : jG) (p1 : Int32) : Prop := (okX10_basinAt F G  p1)
abbrev rmX11_needBasin : Room := { frames := 6, cells := 1, slots := 6, locals := 90 }
def gX11_needGate (F : jF) (G : jG) (p1 : Int32) : Option Nat := bv (gX5_gateAt F G  p1) (fun o2 : Option Nat => om o2 none (fun k3 : Nat => some k3))
def okX11_needGate (F : jF) (G : jG) (p1 : Int32) : Prop := (okX5_gateAt F G  p1)
abbrev rmX11_needGate : Room := { frames := 6, cells := 1, slots := 6, locals := 90 }
def gX11_needPump (F : jF) (G : jG) (p1 : Int32) : Option Nat := bv (gX5_pumpAt F G  p1) (fun o2 : Option Nat => om o2 none (fun k3 : Nat => some k3))
def okX11_needPump (F : jF) (G : jG) (p1 : Int32) : Prop := (okX5_pumpAt F G  p1)
abbrev rmX11_needPump : Room := { frames := 6, cells := 1, slots := 6, locals := 90 }
def gX11_needDyke (F : jF) (G : jG) (p1 : Int32) : Option Nat := bv (gX5_dykeAt F G  p1) (fun o2 : Option Nat => om o2 none (fun k3 : Nat => some k3))
def okX11_needDyke (F : jF) (G : jG) (p1 : Int32) : Prop := (okX5_dykeAt F G  p1)
abbrev rmX11_needDyke : Room := { frames := 6, cells := 1, slots := 6, locals := 90 }
def gX11_needCrew (F : jF) (G : jG) (p1 : Int32) : Option Nat := bv (gX5_crewAt F G  p1) (fun o2 : Option Nat => om o2 none (fun k3 : Nat => some k3))
def okX11_needCrew (F : jF) (G : jG) (p1 : Int32) : Prop := (okX5_crewAt F G  p1)
abbrev rmX11_needCrew : Room := { frames := 6, cells := 1, slots := 6, locals := 90 }
def gX11_needWay (F : jF) (G : jG) (p1 : Int32) (p2 : Int32) : Nat := bv (gX11_needEnd F G p1) (fun c9 : Nat => (if c9 = 0 then bv (gX11_needEnd F G p2) (fun c9 : Nat => (if c9 = 0 then bv (gX11_needDifferent p1 p2) (fun c9 : Nat => (if c9 = 0 then bv (gX10_basinAt F G  p1) (fun o5 : Option Nat => om o5 (bv (gX10_basinAt F G  p2) (fun o8 : Option Nat => om o8 2 (fun k9 : Nat => 0))) (fun k6 : Nat => 0)) else c9)) else c9)) else c9))
def okX11_needWay (F : jF) (G : jG) (p1 : Int32) (p2 : Int32) : Prop := ((okX11_needEnd F G p1) ∧ bv (gX11_needEnd F G p1) (fun c9 : Nat => (c9 = 0 → ((okX11_needEnd F G p2) ∧ bv (gX11_needEnd F G p2) (fun c9 : Nat => (c9 = 0 → bv (gX11_needDifferent p1 p2) (fun c9 : Nat => (c9 = 0 → ((okX10_basinAt F G  p1) ∧ bv (gX10_basinAt F G  p1) (fun o5 : Option Nat => om o5 (okX10_basinAt F G  p2) (fun k6 : Nat => True)))))))))))
abbrev rmX11_needWay : Room := { frames := 7, cells := 4, slots := 24, locals := 112 }
set_option maxHeartbeats 4000000 in
set_option maxRecDepth 100000 in
theorem qX11_needRange (l : Launch) (hl9 : l.stackTraces = false) (D : va_G) (yy : Nat → ClassId) (h0 : Nat) (sz : Nat) (p1 : Int32) (p2 : Int32) (p3 : Int32) : vx_Met l yX11_needRange (Cond.code yX11_needRange cX11_needRange 4 none :: wsL_law) rmX11_needRange (va_Pc [.ref h0, .int p1, .int p2, .int p3] (jV D yy ([] : va_W) sz)) (va_Qv (fun _ : Unit => gX11_needRange p1 p2 p3 = 0) (fun _ _ => True) (jE sz)) (vx_X (fun _ : Unit => True) (fun E _ _ => gX11_needRange p1 p2 p3 ≠ 0 ∧ E = xN (gX11_needRange p1 p2 p3)) (jE sz)) 1 6 (jE sz) := by
  generalize hres : gX11_needRange p1 p2 p3 = RES
  refine jMX (vs := [.ref h0, .int p1, .int p2, .int p3]) (own := RX11) (by decide +kernel) rfl (Nat.le_of_ble_eq_true rfl) ?_
  intro p e s m args below meth c ls Q hQ hargs S hr hlk htab hB hl
  obtain ⟨hx, hb, hml, hown, hts⟩ := S
  have hl : lv_has ls 4 [(0, .ref h0), (1, .int p1), (2, .int p2), (3, .int p3)] := hl
  obtain ⟨⟨hsz, hV, hK⟩, hT⟩ := hB
  subst hsz
  have hE : ∀ q, jE s.heap.size q → jE s.heap.size q := fun _ h => h
  have hfree : ∀ q, jE s.heap.size q → jE s.heap.size q := fun _ h => h
  have hA : ∀ q : Nat, s.heap.size ≤ q → jE s.heap.size q := fun _ h => h
  obtain ⟨H, hH⟩ : ∃ z, z = s.heap := ⟨_, rfl⟩
  obtain ⟨locs, hlocs⟩ : ∃ z : List Loc, z = [] := ⟨_, rfl⟩
  have hS9 : va_S (jE s.heap.size) s.heap H locs := by rw [hH, hlocs]; exact va_S.rf
  have hS := hS9
  rw [← hH] at hV
  suffices hgo : W p l e rmX11_needRange s m args below meth c H locs 0 0 Q (F0 m 0 ls []) by rw [hH, hlocs] at hgo; exact hgo
  unfold gX11_needRange at hres
  refine lv_iload_n hx hb (dd_of dX11_needRange_0 0 rfl) rfl (lv_at hl 1 rfl) ?_
  refine lv_iload_n hx hb (dd_of dX11_needRange_0 1 rfl) rfl (lv_at hl 2 rfl) ?_
  refine lv_icmp_lt (tgt := 10) hx hb (dd_of dX11_needRange_0 2 rfl) (by decide) (fun c1 => ?_) (fun c1 => ?_)
  · replace hres := ifE c1 hres
    subst hQ
    exact xthrow (px := True) (B := (fun E => RES ≠ 0 ∧ E = xN RES)) xokA (Or.inr (Or.inl rfl)) hx hb hl9 hts hown hT hS (show (234, "out of range") ∈ xStr by simp [xStr]) (hl.1.trans hml.symm) (dd_of dX11_needRange_0 6 rfl) (dd_of dX11_needRange_0 7 rfl) (dd_of dX11_needRange_0 8 rfl) (dd_of dX11_needRange_0 9 rfl) (dd_of dX11_needRange_0 10 rfl) htab (Nat.le_of_ble_eq_true rfl) (Nat.le_of_ble_eq_true rfl) (Nat.le_of_ble_eq_true rfl) (Nat.le_of_ble_eq_true rfl) hlk trivial (by rw [← hres]; exact ⟨by decide, rfl⟩) hE hS9 (Nat.le_of_ble_eq_true rfl) (Nat.le_of_ble_eq_true rfl) hfree
  · replace hres := ifN c1 hres
    refine lv_iload_n hx hb (dd_of dX11_needRange_0 3 rfl) rfl (lv_at hl 1 rfl) ?_
    refine lv_iload_n hx hb (dd_of dX11_needRange_0 4 rfl) rfl (lv_at hl 3 rfl) ?_
    refine lv_icmp_le (tgt := 20) hx hb (dd_of dX11_needRange_0 5 rfl) (by decide) (fun c2 => ?_) (fun c2 => ?_)
    · replace hres := ifE c2 hres
      subst hQ
      refine vx_ret (W.widen (k := 1) (n := 6) (Nat.le_of_ble_eq_true rfl) (Nat.le_of_ble_eq_true rfl) ?_)
      exact W.vret hx hb hr (fun t ht hW => ⟨⟨(), rfl, hres.symm, trivial⟩, hS9.F ht⟩) (fun z hz => hfree _ (hS9.2.2 z hz)) (dd_of dX11_needRange_0 11 rfl) hlk
    · replace hres := ifN c2 hres
      subst hQ
      exact xthrow (px := True) (B := (fun E => RES ≠ 0 ∧ E = xN RES)) xokA (Or.inr (Or.inl rfl)) hx hb hl9 hts hown hT hS (show (234, "out of range") ∈ xStr by simp [xStr]) (hl.1.trans hml.symm) (dd_of dX11_needRange_0 6 rfl) (dd_of dX11_needRange_0 7 rfl) (dd_of dX11_needRange_0 8 rfl) (dd_of dX11_needRange_0 9 rfl) (dd_of dX11_needRange_0 10 rfl) htab (Nat.le_of_ble_eq_true rfl) (Nat.le_of_ble_eq_true rfl) (Nat.le_of_ble_eq_true rfl) (Nat.le_of_ble_eq_true rfl) hlk trivial (by rw [← hres]; exact ⟨by decide, rfl⟩) hE hS9 (Nat.le_of_ble_eq_true rfl) (Nat.le_of_ble_eq_true rfl) hfree
set_option maxHeartbeats 4000000 in
set_option maxRecDepth 100000 in
theorem qX11_needDifferent (l : Launch) (hl9 : l.stackTraces = false) (D : va_G) (yy : Nat → ClassId) (h0 : Nat) (sz : Nat) (p1 : Int32) (p2 : Int32) : vx_Met l yX11_needDifferent (Cond.code yX11_needDifferent cX11_needDifferent 3 none :: wsL_law) rmX11_needDifferent (va_Pc [.ref h0, .int p1, .int p2] (jV D yy ([] : va_W) sz)) (va_Qv (fun _ : Unit => gX11_needDifferent p1 p2 = 0) (fun _ _ => True) (jE sz)) (vx_X (fun _ : Unit => True) (fun E _ _ => gX11_needDifferent p1 p2 ≠ 0 ∧ E = xN (gX11_needDifferent p1 p2)) (jE sz)) 1 6 (jE sz) := by
  generalize hres : gX11_needDifferent p1 p2 = RES
  refine jMX (vs := [.ref h0, .int p1, .int p2]) (own := RX11) (by decide +kernel) rfl (Nat.le_of_ble_eq_true rfl) ?_
  intro p e s m args below meth c ls Q hQ hargs S hr hlk htab hB hl
  obtain ⟨hx, hb, hml, hown, hts⟩ := S
  have hl : lv_has ls 3 [(0, .ref h0), (1, .int p1), (2, .int p2)] := hl
  obtain ⟨⟨hsz, hV, hK⟩, hT⟩ := hB
  subst hsz
  have hE : ∀ q, jE s.heap.size q → jE s.heap.size q := fun _ h => h
  have hfree : ∀ q, jE s.heap.size q → jE s.heap.size q := fun _ h => h
  have hA : ∀ q : Nat, s.heap.size ≤ q → jE s.heap.size q := fun _ h => h
  obtain ⟨H, hH⟩ : ∃ z, z = s.heap := ⟨_, rfl⟩
  obtain ⟨locs, hlocs⟩ : ∃ z : List Loc, z = [] := ⟨_, rfl⟩
  have hS9 : va_S (jE s.heap.size) s.heap H locs := by rw [hH, hlocs]; exact va_S.rf
  have hS := hS9
  rw [← hH] at hV
  suffices hgo : W p l e rmX11_needDifferent s m args below meth c H locs 0 0 Q (F0 m 0 ls []) by rw [hH, hlocs] at hgo; exact hgo
  unfold gX11_needDifferent at hres
  refine lv_iload_n hx hb (dd_of dX11_needDifferent_0 0 rfl) rfl (lv_at hl 1 rfl) ?_
  refine lv_iload_n hx hb (dd_of dX11_needDifferent_0 1 rfl) rfl (lv_at hl 2 rfl) ?_
  refine lv_icmp_ne (tgt := 15) hx hb (dd_of dX11_needDifferent_0 2 rfl) (by decide) (fun c1 => ?_) (fun c1 => ?_)
  · replace hres := ifN c1 hres
    subst hQ
    refine vx_ret (W.widen (k := 1) (n := 6) (Nat.le_of_ble_eq_true rfl) (Nat.le_of_ble_eq_true rfl) ?_)
    exact W.vret hx hb hr (fun t ht hW => ⟨⟨(), rfl, hres.symm, trivial⟩, hS9.F ht⟩) (fun z hz => hfree _ (hS9.2.2 z hz)) (dd_of dX11_needDifferent_0 8 rfl) hlk
  · replace hres := ifE c1 hres
    subst hQ
    exact xthrow (px := True) (B := (fun E => RES ≠ 0 ∧ E = xN RES)) xokA (Or.inr (Or.inl rfl)) hx hb hl9 hts hown hT hS (show (237, "both are the same") ∈ xStr by simp [xStr]) (hl.1.trans hml.symm) (dd_of dX11_needDifferent_0 3 rfl) (dd_of dX11_needDifferent_0 4 rfl) (dd_of dX11_needDifferent_0 5 rfl) (dd_of dX11_needDifferent_0 6 rfl) (dd_of dX11_needDifferent_0 7 rfl) htab (Nat.le_of_ble_eq_true rfl) (Nat.le_of_ble_eq_true rfl) (Nat.le_of_ble_eq_true rfl) (Nat.le_of_ble_eq_true rfl) hlk trivial (by rw [← hres]; exact ⟨by decide, rfl⟩) hE hS9 (Nat.le_of_ble_eq_true rfl) (Nat.le_of_ble_eq_true rfl) hfree
set_option maxHeartbeats 4000000 in
set_option maxRecDepth 100000 in
theorem qX11_needState (l : Launch) (hl9 : l.stackTraces = false) (D : va_G) (yy : Nat → ClassId) (h0 : Nat) (sz : Nat) (p1 : Int32) : vx_Met l yX11_needState (Cond.code yX11_needState cX11_needState 2 none :: wsL_law) rmX11_needState (va_Pc [.ref h0, .int p1] (jV D yy ([] : va_W) sz)) (va_Qv (fun _ : Unit => gX11_needState p1 = 0) (fun _ _ => True) (jE sz)) (vx_X (fun _ : Unit => True) (fun E _ _ => gX11_needState p1 ≠ 0 ∧ E = xN (gX11_needState p1)) (jE sz)) 1 6 (jE sz) := by
  generalize hres : gX11_needState p1 = RES
  refine jMX (vs := [.ref h0, .int p1]) (own := RX11) (by decide +kernel) rfl (Nat.le_of_ble_eq_true rfl) ?_
  intro p e s m args below meth c ls Q hQ hargs S hr hlk htab hB hl
  obtain ⟨hx, hb, hml, hown, hts⟩ := S
  have hl : lv_has ls 2 [(0, .ref h0), (1, .int p1)] := hl
  obtain ⟨⟨hsz, hV, hK⟩, hT⟩ := hB
  subst hsz
  have hE : ∀ q, jE s.heap.size q → jE s.heap.size q := fun _ h => h
  have hfree : ∀ q, jE s.heap.size q → jE s.heap.size q := fun _ h => h
  have hA : ∀ q : Nat, s.heap.size ≤ q → jE s.heap.size q := fun _ h => h
  obtain ⟨H, hH⟩ : ∃ z, z = s.heap := ⟨_, rfl⟩
  obtain ⟨locs, hlocs⟩ : ∃ z : List Loc, z = [] := ⟨_, rfl⟩
  have hS9 : va_S (jE s.heap.size) s.heap H locs := by rw [hH, hlocs]; exact va_S.rf
  have hS := hS9
  rw [← hH] at hV
  suffices hgo : W p l e rmX11_needState s m args below meth c H locs 0 0 Q (F0 m 0 ls []) by rw [hH, hlocs] at hgo; exact hgo
  unfold gX11_needState at hres
  refine lv_iload_n hx hb (dd_of dX11_needState_0 0 rfl) rfl (lv_at hl 1 rfl) ?_
  refine lv_if_ne (tgt := 14) hx hb (dd_of dX11_needState_0 1 rfl) (by decide) (fun c1 => ?_) (fun c1 => ?_)
  · replace hres := ifN c1 hres
    subst hQ
    refine vx_ret (W.widen (k := 1) (n := 6) (Nat.le_of_ble_eq_true rfl) (Nat.le_of_ble_eq_true rfl) ?_)
    exact W.vret hx hb hr (fun t ht hW => ⟨⟨(), rfl, hres.symm, trivial⟩, hS9.F ht⟩) (fun z hz => hfree _ (hS9.2.2 z hz)) (dd_of dX11_needState_0 7 rfl) hlk
  · replace hres := ifE c1 hres
    subst hQ
    exact xthrow (px := True) (B := (fun E => RES ≠ 0 ∧ E = xN RES)) xokS (Or.inr (Or.inr rfl)) hx hb hl9 hts hown hT hS (show (241, "not now") ∈ xStr by simp [xStr]) (hl.1.trans hml.symm) (dd_of dX11_needState_0 2 rfl) (dd_of dX11_needState_0 3 rfl) (dd_of dX11_needState_0 4 rfl) (dd_of dX11_needState_0 5 rfl) (dd_of dX11_needState_0 6 rfl) htab (Nat.le_of_ble_eq_true rfl) (Nat.le_of_ble_eq_true rfl) (Nat.le_of_ble_eq_true rfl) (Nat.le_of_ble_eq_true rfl) hlk trivial (by rw [← hres]; exact ⟨by decide, rfl⟩) hE hS9 (Nat.le_of_ble_eq_true rfl) (Nat.le_of_ble_eq_true rfl) hfree
set_option maxHeartbeats 4000000 in
set_option maxRecDepth 100000 in
theorem qX11_needRoom (l : Launch) (hl9 : l.stackTraces = false) (D : va_G) (yy : Nat → ClassId) (h0 : Nat) (sz : Nat) (p1 : Int32) (p2 : Int32) : vx_Met l yX11_needRoom (Cond.code yX11_needRoom cX11_needRoom 3 none :: wsL_law) rmX11_needRoom (va_Pc [.ref h0, .int p1, .int p2] (jV D yy ([] : va_W) sz)) (va_Qv (fun _ : Unit => gX11_needRoom p1 p2 = 0) (fun _ _ => True) (jE sz)) (vx_X (fun _ : Unit => True) (fun E _ _ => gX11_needRoom p1 p2 ≠ 0 ∧ E = xN (gX11_needRoom p1 p2)) (jE sz)) 1 6 (jE sz) := by
  generalize hres : gX11_needRoom p1 p2 = RES
  refine jMX (vs := [.ref h0, .int p1, .int p2]) (own := RX11) (by decide +kernel) rfl (Nat.le_of_ble_eq_true rfl) ?_
  intro p e s m args below meth c ls Q hQ hargs S hr hlk htab hB hl
  obtain ⟨hx, hb, hml, hown, hts⟩ := S
  have hl : lv_has ls 3 [(0, .ref h0), (1, .int p1), (2, .int p2)] := hl
  obtain ⟨⟨hsz, hV, hK⟩, hT⟩ := hB
  subst hsz
  have hE : ∀ q, jE s.heap.size q → jE s.heap.size q := fun _ h => h
  have hfree : ∀ q, jE s.heap.size q → jE s.heap.size q := fun _ h => h
  have hA : ∀ q : Nat, s.heap.size ≤ q → jE s.heap.size q := fun _ h => h
  obtain ⟨H, hH⟩ : ∃ z, z = s.heap := ⟨_, rfl⟩
  obtain ⟨locs, hlocs⟩ : ∃ z : List Loc, z = [] := ⟨_, rfl⟩
  have hS9 : va_S (jE s.heap.size) s.heap H locs := by rw [hH, hlocs]; exact va_S.rf
  have hS := hS9
  rw [← hH] at hV
  suffices hgo : W p l e rmX11_needRoom s m args below meth c H locs 0 0 Q (F0 m 0 ls []) by rw [hH, hlocs] at hgo; exact hgo
  unfold gX11_needRoom at hres
  refine lv_iload_n hx hb (dd_of dX11_needRoom_0 0 rfl) rfl (lv_at hl 1 rfl) ?_
  refine lv_iload_n hx hb (dd_of dX11_needRoom_0 1 rfl) rfl (lv_at hl 2 rfl) ?_
  refine lv_icmp_lt (tgt := 15) hx hb (dd_of dX11_needRoom_0 2 rfl) (by decide) (fun c1 => ?_) (fun c1 => ?_)
  · replace hres := ifE c1 hres
    subst hQ
    refine vx_ret (W.widen (k := 1) (n := 6) (Nat.le_of_ble_eq_true rfl) (Nat.le_of_ble_eq_true rfl) ?_)
    exact W.vret hx hb hr (fun t ht hW => ⟨⟨(), rfl, hres.symm, trivial⟩, hS9.F ht⟩) (fun z hz => hfree _ (hS9.2.2 z hz)) (dd_of dX11_needRoom_0 8 rfl) hlk
  · replace hres := ifN c1 hres
    subst hQ
    exact xthrow (px := True) (B := (fun E => RES ≠ 0 ∧ E = xN RES)) xokS (Or.inr (Or.inr rfl)) hx hb hl9 hts hown hT hS (show (244, "no more room") ∈ xStr by simp [xStr]) (hl.1.trans hml.symm) (dd_of dX11_needRoom_0 3 rfl) (dd_of dX11_needRoom_0 4 rfl) (dd_of dX11_needRoom_0 5 rfl) (dd_of dX11_needRoom_0 6 rfl) (dd_of dX11_needRoom_0 7 rfl) htab (Nat.le_of_ble_eq_true rfl) (Nat.le_of_ble_eq_true rfl) (Nat.le_of_ble_eq_true rfl) (Nat.le_of_ble_eq_true rfl) hlk trivial (by rw [← hres]; exact ⟨by decide, rfl⟩) hE hS9 (Nat.le_of_ble_eq_true rfl) (Nat.le_of_ble_eq_true rfl) hfree
set_option maxHeartbeats 4000000 in
set_option maxRecDepth 100000 in
theorem qX11_needMoney (l : Launch) (hl9 : l.stackTraces = false) (D : va_G) (yy : Nat → ClassId) (h0 an : Nat) (B B2 : Nat → Nat) (F : jF) (G : jG) (F2 : jF) (G2 : jG) (M : jF) (sz : Nat) (p1 : Int32) : vx_Met l yX11_needMoney (Cond.code yX11_needMoney cX11_needMoney 2 none :: wsL_law) rmX11_needMoney (va_Pc [.ref h0, .int p1] (jV D yy (pV yy h0 an B B2 F G F2 G2 M) sz)) (va_Qv (fun _ : Unit => gX11_needMoney F G p1 = 0) (fun _ _ => True) (jE sz)) (vx_X (fun _ : Unit => True) (fun E _ _ => gX11_needMoney F G p1 ≠ 0 ∧ E = xN (gX11_needMoney F G p1)) (jE sz)) 1 6 (jE sz) := by
  generalize hres : gX11_needMoney F G p1 = RES
  refine jMX (vs := [.ref h0, .int p1]) (own := RX11) (by decide +kernel) rfl (Nat.le_of_ble_eq_true rfl) ?_
  intro p e s m args below meth c ls Q hQ hargs S hr hlk htab hB hl
  obtain ⟨hx, hb, hml, hown, hts⟩ := S
  have hl : lv_has ls 2 [(0, .ref h0), (1, .int p1)] := hl
  obtain ⟨⟨hsz, hV, hK⟩, hT⟩ := hB
  subst hsz
  have hE : ∀ q, jE s.heap.size q → jE s.heap.size q := fun _ h => h
  have hfree : ∀ q, jE s.heap.size q → jE s.heap.size q := fun _ h => h
  have hA : ∀ q : Nat, s.heap.size ≤ q → jE s.heap.size q := fun _ h => h
  obtain ⟨H, hH⟩ : ∃ z, z = s.heap := ⟨_, rfl⟩
  obtain ⟨locs, hlocs⟩ : ∃ z : List Loc, z = [] := ⟨_, rfl⟩
  have hS9 : va_S (jE s.heap.size) s.heap H locs := by rw [hH, hlocs]; exact va_S.rf
  have hS := hS9
  rw [← hH] at hV
  have hP : va_P D vwCl (lW yy B F G) H := fun k q hk => hV (2 + k) q (ap_get (ap_getl hk))
  suffices hgo : W p l e rmX11_needMoney s m args below meth c H locs 0 0 Q (F0 m 0 ls []) by rw [hH, hlocs] at hgo; exact hgo
  unfold gX11_needMoney at hres
  refine lv_aload_n hx hb (dd_of dX11_needMoney_0 0 rfl) rfl (lv_at hl 0 rfl) ?_
  refine va_get (D := D) (cl := vwCl) (tys := jT yy) (ci := 11) (v := .ref (B 0)) (C := RX11) (T := TX11) (N := 5) hx hb hts (fun w h => List.mem_cons_of_mem _ (inlX11 w h)) hown hK hV 0 rfl rfl 0 (by decide) (jw hts gw16) (fun _ h9 => h9) rfl (dd_of dX11_needMoney_0 1 rfl) ?_
  refine va_get (D := D) (cl := vwCl) (tys := jT yy) (ci := 5) (v := .ref (B 2)) (C := RX5) (T := TX5) (N := 10) hx hb hts (fun w h => List.mem_cons_of_mem _ (inlX5 w h)) hown hK hP 0 rfl rfl 1 (by decide) (jw hts gw808) (fun _ h9 => h9) rfl (dd_of dX11_needMoney_0 2 rfl) ?_
  refine va_get (D := D) (cl := vwCl) (tys := jT yy) (ci := 1) (v := .int (F 62 0)) (C := RX1) (T := TX1) (N := 8) hx hb hts (fun w h => List.mem_cons_of_mem _ (inlX1 w h)) hown hK hP 2 rfl rfl 0 (by decide) (jw hts gw809) (fun _ h9 => h9) rfl (dd_of dX11_needMoney_0 3 rfl) ?_
  refine lv_iload_n hx hb (dd_of dX11_needMoney_0 4 rfl) rfl (lv_at hl 1 rfl) ?_
  refine lv_icmp_ge (tgt := 24) hx hb (dd_of dX11_needMoney_0 5 rfl) (by decide) (fun c1 => ?_) (fun c1 => ?_)
  · replace hres := ifE c1 hres
    subst hQ
    refine vx_ret (W.widen (k := 1) (n := 6) (Nat.le_of_ble_eq_true rfl) (Nat.le_of_ble_eq_true rfl) ?_)
    exact W.vret hx hb hr (fun t ht hW => ⟨⟨(), rfl, hres.symm, trivial⟩, hS9.F ht⟩) (fun z hz => hfree _ (hS9.2.2 z hz)) (dd_of dX11_needMoney_0 11 rfl) hlk
  · replace hres := ifN c1 hres
    subst hQ
    exact xthrow (px := True) (B := (fun E => RES ≠ 0 ∧ E = xN RES)) xokS (Or.inr (Or.inr rfl)) hx hb hl9 hts hown hT hS (show (246, "not enough money") ∈ xStr by simp [xStr]) (hl.1.trans hml.symm) (dd_of dX11_needMoney_0 6 rfl) (dd_of dX11_needMoney_0 7 rfl) (dd_of dX11_needMoney_0 8 rfl) (dd_of dX11_needMoney_0 9 rfl) (dd_of dX11_needMoney_0 10 rfl) htab (Nat.le_of_ble_eq_true rfl) (Nat.le_of_ble_eq_true rfl) (Nat.le_of_ble_eq_true rfl) (Nat.le_of_ble_eq_true rfl) hlk trivial (by rw [← hres]; exact ⟨by decide, rfl⟩) hE hS9 (Nat.le_of_ble_eq_true rfl) (Nat.le_of_ble_eq_true rfl) hfree
set_option maxHeartbeats 4000000 in
set_option maxRecDepth 100000 in
theorem qX11_needEnd (l : Launch) (hl9 : l.stackTraces = false) (D : va_G) (yy : Nat → ClassId) (h0 an : Nat) (B B2 : Nat → Nat) (F : jF) (G : jG) (F2 : jF) (G2 : jG) (M : jF) (sz : Nat) (p1 : Int32) (hok : okX11_needEnd F G p1) : vx_Met l yX11_needEnd (Cond.code yX11_needEnd cX11_needEnd 2 none :: wsL_law) rmX11_needEnd (va_Pc [.ref h0, .int p1] (jV D yy (pV yy h0 an B B2 F G F2 G2 M) sz)) (va_Qv (fun _ : Unit => gX11_needEnd F G p1 = 0) (fun _ _ => True) (jE sz)) (vx_X (fun _ : Unit => True) (fun E _ _ => gX11_needEnd F G p1 ≠ 0 ∧ E = xN (gX11_needEnd F G p1)) (jE sz)) 1 6 (jE sz) := by
  generalize hres : gX11_needEnd F G p1 = RES
  refine jMX (vs := [.ref h0, .int p1]) (own := RX11) (by decide +kernel) rfl (Nat.le_of_ble_eq_true rfl) ?_
  intro p e s m args below meth c ls Q hQ hargs S hr hlk htab hB hl
  obtain ⟨hx, hb, hml, hown, hts⟩ := S
  have hl : lv_has ls 2 [(0, .ref h0), (1, .int p1)] := hl
  obtain ⟨⟨hsz, hV, hK⟩, hT⟩ := hB
  subst hsz
  have hE : ∀ q, jE s.heap.size q → jE s.heap.size q := fun _ h => h
  have hfree : ∀ q, jE s.heap.size q → jE s.heap.size q := fun _ h => h
  have hA : ∀ q : Nat, s.heap.size ≤ q → jE s.heap.size q := fun _ h => h
  obtain ⟨H, hH⟩ : ∃ z, z = s.heap := ⟨_, rfl⟩
  obtain ⟨locs, hlocs⟩ : ∃ z : List Loc, z = [] := ⟨_, rfl⟩
  have hS9 : va_S (jE s.heap.size) s.heap H locs := by rw [hH, hlocs]; exact va_S.rf
  have hS := hS9
  rw [← hH] at hV
  have hP : va_P D vwCl (lW yy B F G) H := fun k q hk => hV (2 + k) q (ap_get (ap_getl hk))
  suffices hgo : W p l e rmX11_needEnd s m args below meth c H locs 0 0 Q (F0 m 0 ls []) by rw [hH, hlocs] at hgo; exact hgo
  unfold gX11_needEnd at hres
  unfold okX11_needEnd at hok
  refine lv_aload_n hx hb (dd_of dX11_needEnd_0 0 rfl) rfl (lv_at hl 0 rfl) ?_
  refine va_get (D := D) (cl := vwCl) (tys := jT yy) (ci := 11) (v := .ref (B 0)) (C := RX11) (T := TX11) (N := 5) hx hb hts (fun w h => List.mem_cons_of_mem _ (inlX11 w h)) hown hK hV 0 rfl rfl 0 (by decide) (jw hts gw16) (fun _ h9 => h9) rfl (dd_of dX11_needEnd_0 1 rfl) ?_
  refine va_get (D := D) (cl := vwCl) (tys := jT yy) (ci := 5) (v := .ref (B 1)) (C := RX5) (T := TX5) (N := 10) hx hb hts (fun w h => List.mem_cons_of_mem _ (inlX5 w h)) hown hK hP 0 rfl rfl 0 (by decide) (jw hts gw181) (fun _ h9 => h9) rfl (dd_of dX11_needEnd_0 2 rfl) ?_
  refine lv_iload_n hx hb (dd_of dX11_needEnd_0 3 rfl) rfl (lv_at hl 1 rfl) ?_
  have h1 := hok
  refine jc_i (As := [.int p1]) (rest := []) (w := (lW yy B F G)) (D := D) (yy := yy) ⟨hx, hb, hml, hown, hts⟩ (qX10_isEnd l D yy B F G  p1 h1) (cwV 1 hts (jgV gw665 gw666 gw667 gw26 gw668) rfl rfl rfl (by decide +kernel) ⟨Nat.le_of_ble_eq_true rfl, Nat.le_of_ble_eq_true rfl⟩) hP hK (va_recv hK hP (ci := 10) (q0 := 1) rfl rfl) rfl hl.1 rfl (Nat.le_of_ble_eq_true rfl) (dd_of dX11_needEnd_0 4 rfl) ⟨Nat.le_of_ble_eq_true rfl, Nat.le_of_ble_eq_true rfl⟩ (fun x2 ex2 => ?_)
  replace hres := bvE ex2 hres
  refine lv_if_ne (tgt := 24) hx hb (dd_of dX11_needEnd_0 5 rfl) (by decide) (fun c3 => ?_) (fun c3 => ?_)
  · replace hres := ifN c3 hres
    subst hQ
    refine vx_ret (W.widen (k := 1) (n := 6) (Nat.le_of_ble_eq_true rfl) (Nat.le_of_ble_eq_true rfl) ?_)
    exact W.vret hx hb hr (fun t ht hW => ⟨⟨(), rfl, hres.symm, trivial⟩, hS9.F ht⟩) (fun z hz => hfree _ (hS9.2.2 z hz)) (dd_of dX11_needEnd_0 11 rfl) hlk
  · replace hres := ifE c3 hres
    subst hQ
    exact xthrow (px := True) (B := (fun E => RES ≠ 0 ∧ E = xN RES)) xokI (Or.inl rfl) hx hb hl9 hts hown hT hS (show (252, "no such end") ∈ xStr by simp [xStr]) (hl.1.trans hml.symm) (dd_of dX11_needEnd_0 6 rfl) (dd_of dX11_needEnd_0 7 rfl) (dd_of dX11_needEnd_0 8 rfl) (dd_of dX11_needEnd_0 9 rfl) (dd_of dX11_needEnd_0 10 rfl) htab (Nat.le_of_ble_eq_true rfl) (Nat.le_of_ble_eq_true rfl) (Nat.le_of_ble_eq_true rfl) (Nat.le_of_ble_eq_true rfl) hlk trivial (by rw [← hres]; exact ⟨by decide, rfl⟩) hE hS9 (Nat.le_of_ble_eq_true rfl) (Nat.le_of_ble_eq_true rfl) hfree
set_option maxHeartbeats 4000000 in
set_option maxRecDepth 100000 in
theorem qX11_needBasin (l : Launch) (hl9 : l.stackTraces = false) (D : va_G) (yy : Nat → ClassId) (h0 an : Nat) (B B2 : Nat → Nat) (F : jF) (G : jG) (F2 : jF) (G2 : jG) (M : jF) (sz : Nat) (p1 : Int32) (hok : okX11_needBasin F G p1) : vx_Met l yX11_needBasin (Cond.code yX11_needBasin cX11_needBasin 3 (some (.object "Polderwardens$Basin")) :: wsL_law) rmX11_needBasin (va_Pc [.ref h0, .int p1] (jV D yy (pV yy h0 an B B2 F G F2 G2 M) sz)) (va_Qq (fun r (_ : Unit) => ∃ k, gX11_needBasin F G p1 = some k ∧ r = some (B (100 + k))) (fun _ _ => True) (jE sz)) (vx_X (fun _ : Unit => True) (fun E _ _ => gX11_needBasin F G p1 = none ∧ E = xI) (jE sz)) 1 6 (jE sz) := by
  generalize hres : gX11_needBasin F G p1 = RES
  refine jMX (vs := [.ref h0, .int p1]) (own := RX11) (by decide +kernel) rfl (Nat.le_of_ble_eq_true rfl) ?_
  intro p e s m args below meth c ls Q hQ hargs S hr hlk htab hB hl
  obtain ⟨hx, hb, hml, hown, hts⟩ := S
  have hl : lv_has ls 3 [(0, .ref h0), (1, .int p1)] := hl
  obtain ⟨⟨hsz, hV, hK⟩, hT⟩ := hB
  subst hsz
  have hE : ∀ q, jE s.heap.size q → jE s.heap.size q := fun _ h => h
  have hfree : ∀ q, jE s.heap.size q → jE s.heap.size q := fun _ h => h
  have hA : ∀ q : Nat, s.heap.size ≤ q → jE s.heap.size q := fun _ h => h
  obtain ⟨H, hH⟩ : ∃ z, z = s.heap := ⟨_, rfl⟩
  obtain ⟨locs, hlocs⟩ : ∃ z : List Loc, z = [] := ⟨_, rfl⟩
  have hS9 : va_S (jE s.heap.size) s.heap H locs := by rw [hH, hlocs]; exact va_S.rf
  have hS := hS9
  rw [← hH] at hV
  have hP : va_P D vwCl (lW yy B F G) H := fun k q hk => hV (2 + k) q (ap_get (ap_getl hk))
  suffices hgo : W p l e rmX11_needBasin s m args below meth c H locs 0 0 Q (F0 m 0 ls []) by rw [hH, hlocs] at hgo; exact hgo
  unfold gX11_needBasin at hres
  unfold okX11_needBasin at hok
  refine lv_aload_n hx hb (dd_of dX11_needBasin_0 0 rfl) rfl (lv_at hl 0 rfl) ?_
  refine va_get (D := D) (cl := vwCl) (tys := jT yy) (ci := 11) (v := .ref (B 0)) (C := RX11) (T := TX11) (N := 5) hx hb hts (fun w h => List.mem_cons_of_mem _ (inlX11 w h)) hown hK hV 0 rfl rfl 0 (by decide) (jw hts gw16) (fun _ h9 => h9) rfl (dd_of dX11_needBasin_0 1 rfl) ?_
  refine va_get (D := D) (cl := vwCl) (tys := jT yy) (ci := 5) (v := .ref (B 1)) (C := RX5) (T := TX5) (N := 10) hx hb hts (fun w h => List.mem_cons_of_mem _ (inlX5 w h)) hown hK hP 0 rfl rfl 0 (by decide) (jw hts gw181) (fun _ h9 => h9) rfl (dd_of dX11_needBasin_0 2 rfl) ?_
  refine lv_iload_n hx hb (dd_of dX11_needBasin_0 3 rfl) rfl (lv_at hl 1 rfl) ?_
  have h1 := hok
  refine jc_q (As := [.int p1]) (rest := []) (w := (lW yy B F G)) (D := D) (yy := yy) (B := B) (off := 100) ⟨hx, hb, hml, hown, hts⟩ (qX10_basinAt l D yy B F G  p1 h1) (cwV 1 hts (jgV gw612 gw231 gw232 gw26 gw233) rfl rfl rfl (by decide +kernel) ⟨Nat.le_of_ble_eq_true rfl, Nat.le_of_ble_eq_true rfl⟩) hP hK (va_recv hK hP (ci := 10) (q0 := 1) rfl rfl) rfl hl.1 rfl (Nat.le_of_ble_eq_true rfl) (dd_of dX11_needBasin_0 4 rfl) ⟨Nat.le_of_ble_eq_true rfl, Nat.le_of_ble_eq_true rfl⟩ (fun o2 eo2 => ?_)
  replace hres := bvE eo2 hres
  rcases o2 with _ | k3
  · replace hres := omN hres
    refine lv_astore_nN (lv' := [(2, .null), (0, .ref h0), (1, .int p1)]) hx hb (dd_of dX11_needBasin_0 5 rfl) rfl hl (by decide) rfl (fun ls hl => ?_)
    refine lv_aload_nN hx hb (dd_of dX11_needBasin_0 6 rfl) rfl (lv_at hl 0 rfl) ?_
    refine lv_ifnonnullN hx hb (dd_of dX11_needBasin_0 7 rfl) ?_
    subst hQ
    exact xthroww (px := True) (B := (fun E => RES = none ∧ E = xI)) xokI (Or.inl rfl) hx hb hl9 hts hown hT hS (show (259, "no such basin") ∈ xStr by simp [xStr]) (hl.1.trans hml.symm) (dd_of dX11_needBasin_0 8 rfl) (dd_of dX11_needBasin_0 9 rfl) (dd_of dX11_needBasin_0 10 rfl) (dd_of dX11_needBasin_0 11 rfl) (dd_of dX11_needBasin_0 12 rfl) htab (Nat.le_of_ble_eq_true rfl) (Nat.le_of_ble_eq_true rfl) (Nat.le_of_ble_eq_true rfl) (Nat.le_of_ble_eq_true rfl) hlk trivial ⟨hres.symm, rfl⟩ hE hS9 (Nat.le_of_ble_eq_true rfl) (Nat.le_of_ble_eq_true rfl) hfree
  · replace hres := omS hres
    refine lv_astore_n (lv' := [(2, .ref (B (100 + k3))), (0, .ref h0), (1, .int p1)]) hx hb (dd_of dX11_needBasin_0 5 rfl) rfl hl (by decide) rfl (fun ls hl => ?_)
    refine lv_aload_n hx hb (dd_of dX11_needBasin_0 6 rfl) rfl (lv_at hl 0 rfl) ?_
    refine lv_ifnonnull (tgt := 27) hx hb (dd_of dX11_needBasin_0 7 rfl) (by decide) ?_
    refine lv_aload_n hx hb (dd_of dX11_needBasin_0 13 rfl) rfl (lv_at hl 0 rfl) ?_
    subst hQ
    refine vx_ret (W.widen (k := 1) (n := 6) (Nat.le_of_ble_eq_true rfl) (Nat.le_of_ble_eq_true rfl) ?_)
    exact W.aret (v := .ref (B (100 + k3))) (rt := .object "Polderwardens$Basin") hx hb hr (Or.inl ⟨_, rfl⟩) (Or.inr ⟨_, rfl⟩) (fun t ht hW => ⟨⟨some (B (100 + k3)), (), rfl, ⟨k3, hres.symm, rfl⟩, trivial⟩, hS9.F ht⟩) (fun z hz => hfree _ (hS9.2.2 z hz)) (dd_of dX11_needBasin_0 14 rfl) hlk
set_option maxHeartbeats 4000000 in
set_option maxRecDepth 100000 in
theorem qX11_needGate (l : Launch) (hl9 : l.stackTraces = false) (D : va_G) (yy : Nat → ClassId) (h0 an : Nat) (B B2 : Nat → Nat) (F : jF) (G : jG) (F2 : jF) (G2 : jG) (M : jF) (sz : Nat) (p1 : Int32) (hok : okX11_needGate F G p1) : vx_Met l yX11_needGate (Cond.code yX11_needGate cX11_needGate 3 (some (.object "Polderwardens$Gate")) :: wsL_law) rmX11_needGate (va_Pc [.ref h0, .int p1] (jV D yy (pV yy h0 an B B2 F G F2 G2 M) sz)) (va_Qq (fun r (_ : Unit) => ∃ k, gX11_needGate F G p1 = some k ∧ r = some (B (200 + k))) (fun _ _ => True) (jE sz)) (vx_X (fun _ : Unit => True) (fun E _ _ => gX11_needGate F G p1 = none ∧ E = xI) (jE sz)) 1 6 (jE sz) := by
  generalize hres : gX11_needGate F G p1 = RES
  refine jMX (vs := [.ref h0, .int p1]) (own := RX11) (by decide +kernel) rfl (Nat.le_of_ble_eq_true rfl) ?_
  intro p e s m args below meth c ls Q hQ hargs S hr hlk htab hB hl
  obtain ⟨hx, hb, hml, hown, hts⟩ := S
  have hl : lv_has ls 3 [(0, .ref h0), (1, .int p1)] := hl
  obtain ⟨⟨hsz, hV, hK⟩, hT⟩ := hB
  subst hsz
  have hE : ∀ q, jE s.heap.size q → jE s.heap.size q := fun _ h => h
  have hfree : ∀ q, jE s.heap.size q → jE s.heap.size q := fun _ h => h
  have hA : ∀ q : Nat, s.heap.size ≤ q → jE s.heap.size q := fun _ h => h
  obtain ⟨H, hH⟩ : ∃ z, z = s.heap := ⟨_, rfl⟩
  obtain ⟨locs, hlocs⟩ : ∃ z : List Loc, z = [] := ⟨_, rfl⟩
  have hS9 : va_S (jE s.heap.size) s.heap H locs := by rw [hH, hlocs]; exact va_S.rf
  have hS := hS9
  rw [← hH] at hV
  have hP : va_P D vwCl (lW yy B F G) H := fun k q hk => hV (2 + k) q (ap_get (ap_getl hk))
  suffices hgo : W p l e rmX11_needGate s m args below meth c H locs 0 0 Q (F0 m 0 ls []) by rw [hH, hlocs] at hgo; exact hgo
  unfold gX11_needGate at hres
  unfold okX11_needGate at hok
  refine lv_aload_n hx hb (dd_of dX11_needGate_0 0 rfl) rfl (lv_at hl 0 rfl) ?_
  refine va_get (D := D) (cl := vwCl) (tys := jT yy) (ci := 11) (v := .ref (B 0)) (C := RX11) (T := TX11) (N := 5) hx hb hts (fun w h => List.mem_cons_of_mem _ (inlX11 w h)) hown hK hV 0 rfl rfl 0 (by decide) (jw hts gw16) (fun _ h9 => h9) rfl (dd_of dX11_needGate_0 1 rfl) ?_
  refine lv_iload_n hx hb (dd_of dX11_needGate_0 2 rfl) rfl (lv_at hl 1 rfl) ?_
  have h1 := hok
  refine jc_q (As := [.int p1]) (rest := []) (w := (lW yy B F G)) (D := D) (yy := yy) (B := B) (off := 200) ⟨hx, hb, hml, hown, hts⟩ (qX5_gateAt l D yy B F G  p1 h1) (cwV 1 hts (jgV gw772 gw338 gw339 gw15 gw340) rfl rfl rfl (by decide +kernel) ⟨Nat.le_of_ble_eq_true rfl, Nat.le_of_ble_eq_true rfl⟩) hP hK (va_recv hK hP (ci := 5) (q0 := 0) rfl rfl) rfl hl.1 rfl (Nat.le_of_ble_eq_true rfl) (dd_of dX11_needGate_0 3 rfl) ⟨Nat.le_of_ble_eq_true rfl, Nat.le_of_ble_eq_true rfl⟩ (fun o2 eo2 => ?_)
  replace hres := bvE eo2 hres
  rcases o2 with _ | k3
  · replace hres := omN hres
    refine lv_astore_nN (lv' := [(2, .null), (0, .ref h0), (1, .int p1)]) hx hb (dd_of dX11_needGate_0 4 rfl) rfl hl (by decide) rfl (fun ls hl => ?_)
    refine lv_aload_nN hx hb (dd_of dX11_needGate_0 5 rfl) rfl (lv_at hl 0 rfl) ?_
    refine lv_ifnonnullN hx hb (dd_of dX11_needGate_0 6 rfl) ?_
    subst hQ
    exact xthroww (px := True) (B := (fun E => RES = none ∧ E = xI)) xokI (Or.inl rfl) hx hb hl9 hts hown hT hS (show (264, "no such gate") ∈ xStr by simp [xStr]) (hl.1.trans hml.symm) (dd_of dX11_needGate_0 7 rfl) (dd_of dX11_needGate_0 8 rfl) (dd_of dX11_needGate_0 9 rfl) (dd_of dX11_needGate_0 10 rfl) (dd_of dX11_needGate_0 11 rfl) htab (Nat.le_of_ble_eq_true rfl) (Nat.le_of_ble_eq_true rfl) (Nat.le_of_ble_eq_true rfl) (Nat.le_of_ble_eq_true rfl) hlk trivial ⟨hres.symm, rfl⟩ hE hS9 (Nat.le_of_ble_eq_true rfl) (Nat.le_of_ble_eq_true rfl) hfree
  · replace hres := omS hres
    refine lv_astore_n (lv' := [(2, .ref (B (200 + k3))), (0, .ref h0), (1, .int p1)]) hx hb (dd_of dX11_needGate_0 4 rfl) rfl hl (by decide) rfl (fun ls hl => ?_)
    refine lv_aload_n hx hb (dd_of dX11_needGate_0 5 rfl) rfl (lv_at hl 0 rfl) ?_
    refine lv_ifnonnull (tgt := 24) hx hb (dd_of dX11_needGate_0 6 rfl) (by decide) ?_
    refine lv_aload_n hx hb (dd_of dX11_needGate_0 12 rfl) rfl (lv_at hl 0 rfl) ?_
    subst hQ
    refine vx_ret (W.widen (k := 1) (n := 6) (Nat.le_of_ble_eq_true rfl) (Nat.le_of_ble_eq_true rfl) ?_)
    exact W.aret (v := .ref (B (200 + k3))) (rt := .object "Polderwardens$Gate") hx hb hr (Or.inl ⟨_, rfl⟩) (Or.inr ⟨_, rfl⟩) (fun t ht hW => ⟨⟨some (B (200 + k3)), (), rfl, ⟨k3, hres.symm, rfl⟩, trivial⟩, hS9.F ht⟩) (fun z hz => hfree _ (hS9.2.2 z hz)) (dd_of dX11_needGate_0 13 rfl) hlk
set_option maxHeartbeats 4000000 in
set_option maxRecDepth 100000 in
theorem qX11_needPump (l : Launch) (hl9 : l.stackTraces = false) (D : va_G) (yy : Nat → ClassId) (h0 an : Nat) (B B2 : Nat → Nat) (F : jF) (G : jG) (F2 : jF) (G2 : jG) (M : jF) (sz : Nat) (p1 : Int32) (hok : okX11_needPump F G p1) : vx_Met l yX11_needPump (Cond.code yX11_needPump cX11_needPump 3 (some (.object "Polderwardens$Pump")) :: wsL_law) rmX11_needPump (va_Pc [.ref h0, .int p1] (jV D yy (pV yy h0 an B B2 F G F2 G2 M) sz)) (va_Qq (fun r (_ : Unit) => ∃ k, gX11_needPump F G p1 = some k ∧ r = some (B (300 + k))) (fun _ _ => True) (jE sz)) (vx_X (fun _ : Unit => True) (fun E _ _ => gX11_needPump F G p1 = none ∧ E = xI) (jE sz)) 1 6 (jE sz) := by
  generalize hres : gX11_needPump F G p1 = RES
  refine jMX (vs := [.ref h0, .int p1]) (own := RX11) (by decide +kernel) rfl (Nat.le_of_ble_eq_true rfl) ?_
  intro p e s m args below meth c ls Q hQ hargs S hr hlk htab hB hl
  obtain ⟨hx, hb, hml, hown, hts⟩ := S
  have hl : lv_has ls 3 [(0, .ref h0), (1, .int p1)] := hl
  obtain ⟨⟨hsz, hV, hK⟩, hT⟩ := hB
  subst hsz
  have hE : ∀ q, jE s.heap.size q → jE s.heap.size q := fun _ h => h
  have hfree : ∀ q, jE s.heap.size q → jE s.heap.size q := fun _ h => h
  have hA : ∀ q : Nat, s.heap.size ≤ q → jE s.heap.size q := fun _ h => h
  obtain ⟨H, hH⟩ : ∃ z, z = s.heap := ⟨_, rfl⟩
  obtain ⟨locs, hlocs⟩ : ∃ z : List Loc, z = [] := ⟨_, rfl⟩
  have hS9 : va_S (jE s.heap.size) s.heap H locs := by rw [hH, hlocs]; exact va_S.rf
  have hS := hS9
  rw [← hH] at hV
  have hP : va_P D vwCl (lW yy B F G) H := fun k q hk => hV (2 + k) q (ap_get (ap_getl hk))
  suffices hgo : W p l e rmX11_needPump s m args below meth c H locs 0 0 Q (F0 m 0 ls []) by rw [hH, hlocs] at hgo; exact hgo
  unfold gX11_needPump at hres
  unfold okX11_needPump at hok
  refine lv_aload_n hx hb (dd_of dX11_needPump_0 0 rfl) rfl (lv_at hl 0 rfl) ?_
  refine va_get (D := D) (cl := vwCl) (tys := jT yy) (ci := 11) (v := .ref (B 0)) (C := RX11) (T := TX11) (N := 5) hx hb hts (fun w h => List.mem_cons_of_mem _ (inlX11 w h)) hown hK hV 0 rfl rfl 0 (by decide) (jw hts gw16) (fun _ h9 => h9) rfl (dd_of dX11_needPump_0 1 rfl) ?_
  refine lv_iload_n hx hb (dd_of dX11_needPump_0 2 rfl) rfl (lv_at hl 1 rfl) ?_
  have h1 := hok
  refine jc_q (As := [.int p1]) (rest := []) (w := (lW yy B F G)) (D := D) (yy := yy) (B := B) (off := 300) ⟨hx, hb, hml, hown, hts⟩ (qX5_pumpAt l D yy B F G  p1 h1) (cwV 1 hts (jgV gw803 gw377 gw378 gw15 gw379) rfl rfl rfl (by decide +kernel) ⟨Nat.le_of_ble_eq_true rfl, Nat.le_of_ble_eq_true rfl⟩) hP hK (va_recv hK hP (ci := 5) (q0 := 0) rfl rfl) rfl hl.1 rfl (Nat.le_of_ble_eq_true rfl) (dd_of dX11_needPump_0 3 rfl) ⟨Nat.le_of_ble_eq_true rfl, Nat.le_of_ble_eq_true rfl⟩ (fun o2 eo2 => ?_)
  replace hres := bvE eo2 hres
  rcases o2 with _ | k3
  · replace hres := omN hres
    refine lv_astore_nN (lv' := [(2, .null), (0, .ref h0), (1, .int p1)]) hx hb (dd_of dX11_needPump_0 4 rfl) rfl hl (by decide) rfl (fun ls hl => ?_)
    refine lv_aload_nN hx hb (dd_of dX11_needPump_0 5 rfl) rfl (lv_at hl 0 rfl) ?_
    refine lv_ifnonnullN hx hb (dd_of dX11_needPump_0 6 rfl) ?_
    subst hQ
    exact xthroww (px := True) (B := (fun E => RES = none ∧ E = xI)) xokI (Or.inl rfl) hx hb hl9 hts hown hT hS (show (269, "no such pump") ∈ xStr by simp [xStr]) (hl.1.trans hml.symm) (dd_of dX11_needPump_0 7 rfl) (dd_of dX11_needPump_0 8 rfl) (dd_of dX11_needPump_0 9 rfl) (dd_of dX11_needPump_0 10 rfl) (dd_of dX11_needPump_0 11 rfl) htab (Nat.le_of_ble_eq_true rfl) (Nat.le_of_ble_eq_true rfl) (Nat.le_of_ble_eq_true rfl) (Nat.le_of_ble_eq_true rfl) hlk trivial ⟨hres.symm, rfl⟩ hE hS9 (Nat.le_of_ble_eq_true rfl) (Nat.le_of_ble_eq_true rfl) hfree
  · replace hres := omS hres
    refine lv_astore_n (lv' := [(2, .ref (B (300 + k3))), (0, .ref h0), (1, .int p1)]) hx hb (dd_of dX11_needPump_0 4 rfl) rfl hl (by decide) rfl (fun ls hl => ?_)
    refine lv_aload_n hx hb (dd_of dX11_needPump_0 5 rfl) rfl (lv_at hl 0 rfl) ?_
    refine lv_ifnonnull (tgt := 24) hx hb (dd_of dX11_needPump_0 6 rfl) (by decide) ?_
    refine lv_aload_n hx hb (dd_of dX11_needPump_0 12 rfl) rfl (lv_at hl 0 rfl) ?_
    subst hQ
    refine vx_ret (W.widen (k := 1) (n := 6) (Nat.le_of_ble_eq_true rfl) (Nat.le_of_ble_eq_true rfl) ?_)
    exact W.aret (v := .ref (B (300 + k3))) (rt := .object "Polderwardens$Pump") hx hb hr (Or.inl ⟨_, rfl⟩) (Or.inr ⟨_, rfl⟩) (fun t ht hW => ⟨⟨some (B (300 + k3)), (), rfl, ⟨k3, hres.symm, rfl⟩, trivial⟩, hS9.F ht⟩) (fun z hz => hfree _ (hS9.2.2 z hz)) (dd_of dX11_needPump_0 13 rfl) hlk
set_option maxHeartbeats 4000000 in
set_option maxRecDepth 100000 in
theorem qX11_needDyke (l : Launch) (hl9 : l.stackTraces = false) (D : va_G) (yy : Nat → ClassId) (h0 an : Nat) (B B2 : Nat → Nat) (F : jF) (G : jG) (F2 : jF) (G2 : jG) (M : jF) (sz : Nat) (p1 : Int32) (hok : okX11_needDyke F G p1) : vx_Met l yX11_needDyke (Cond.code yX11_needDyke cX11_needDyke 3 (some (.object "Polderwardens$Dyke")) :: wsL_law) rmX11_needDyke (va_Pc [.ref h0, .int p1] (jV D yy (pV yy h0 an B B2 F G F2 G2 M) sz)) (va_Qq (fun r (_ : Unit) => ∃ k, gX11_needDyke F G p1 = some k ∧ r = some (B (400 + k))) (fun _ _ => True) (jE sz)) (vx_X (fun _ : Unit => True) (fun E _ _ => gX11_needDyke F G p1 = none ∧ E = xI) (jE sz)) 1 6 (jE sz) := by
  generalize hres : gX11_needDyke F G p1 = RES
  refine jMX (vs := [.ref h0, .int p1]) (own := RX11) (by decide +kernel) rfl (Nat.le_of_ble_eq_true rfl) ?_
  intro p e s m args below meth c ls Q hQ hargs S hr hlk htab hB hl
  obtain ⟨hx, hb, hml, hown, hts⟩ := S
  have hl : lv_has ls 3 [(0, .ref h0), (1, .int p1)] := hl
  obtain ⟨⟨hsz, hV, hK⟩, hT⟩ := hB
  subst hsz
  have hE : ∀ q, jE s.heap.size q → jE s.heap.size q := fun _ h => h
  have hfree : ∀ q, jE s.heap.size q → jE s.heap.size q := fun _ h => h
  have hA : ∀ q : Nat, s.heap.size ≤ q → jE s.heap.size q := fun _ h => h
  obtain ⟨H, hH⟩ : ∃ z, z = s.heap := ⟨_, rfl⟩
  obtain ⟨locs, hlocs⟩ : ∃ z : List Loc, z = [] := ⟨_, rfl⟩
  have hS9 : va_S (jE s.heap.size) s.heap H locs := by rw [hH, hlocs]; exact va_S.rf
  have hS := hS9
  rw [← hH] at hV
  have hP : va_P D vwCl (lW yy B F G) H := fun k q hk => hV (2 + k) q (ap_get (ap_getl hk))
  suffices hgo : W p l e rmX11_needDyke s m args below meth c H locs 0 0 Q (F0 m 0 ls []) by rw [hH, hlocs] at hgo; exact hgo
  unfold gX11_needDyke at hres
  unfold okX11_needDyke at hok
  refine lv_aload_n hx hb (dd_of dX11_needDyke_0 0 rfl) rfl (lv_at hl 0 rfl) ?_
  refine va_get (D := D) (cl := vwCl) (tys := jT yy) (ci := 11) (v := .ref (B 0)) (C := RX11) (T := TX11) (N := 5) hx hb hts (fun w h => List.mem_cons_of_mem _ (inlX11 w h)) hown hK hV 0 rfl rfl 0 (by decide) (jw hts gw16) (fun _ h9 => h9) rfl (dd_of dX11_needDyke_0 1 rfl) ?_
  refine lv_iload_n hx hb (dd_of dX11_needDyke_0 2 rfl) rfl (lv_at hl 1 rfl) ?_
  have h1 := hok
  refine jc_q (As := [.int p1]) (rest := []) (w := (lW yy B F G)) (D := D) (yy := yy) (B := B) (off := 400) ⟨hx, hb, hml, hown, hts⟩ (qX5_dykeAt l D yy B F G  p1 h1) (cwV 1 hts (jgV gw843 gw409 gw410 gw15 gw411) rfl rfl rfl (by decide +kernel) ⟨Nat.le_of_ble_eq_true rfl, Nat.le_of_ble_eq_true rfl⟩) hP hK (va_recv hK hP (ci := 5) (q0 := 0) rfl rfl) rfl hl.1 rfl (Nat.le_of_ble_eq_true rfl) (dd_of dX11_needDyke_0 3 rfl) ⟨Nat.le_of_ble_eq_true rfl, Nat.le_of_ble_eq_true rfl⟩ (fun o2 eo2 => ?_)
  replace hres := bvE eo2 hres
  rcases o2 with _ | k3
  · replace hres := omN hres
    refine lv_astore_nN (lv' := [(2, .null), (0, .ref h0), (1, .int p1)]) hx hb (dd_of dX11_needDyke_0 4 rfl) rfl hl (by decide) rfl (fun ls hl => ?_)
    refine lv_aload_nN hx hb (dd_of dX11_needDyke_0 5 rfl) rfl (lv_at hl 0 rfl) ?_
    refine lv_ifnonnullN hx hb (dd_of dX11_needDyke_0 6 rfl) ?_
    subst hQ
    exact xthroww (px := True) (B := (fun E => RES = none ∧ E = xI)) xokI (Or.inl rfl) hx hb hl9 hts hown hT hS (show (274, "no such dyke") ∈ xStr by simp [xStr]) (hl.1.trans hml.symm) (dd_of dX11_needDyke_0 7 rfl) (dd_of dX11_needDyke_0 8 rfl) (dd_of dX11_needDyke_0 9 rfl) (dd_of dX11_needDyke_0 10 rfl) (dd_of dX11_needDyke_0 11 rfl) htab (Nat.le_of_ble_eq_true rfl) (Nat.le_of_ble_eq_true rfl) (Nat.le_of_ble_eq_true rfl) (Nat.le_of_ble_eq_true rfl) hlk trivial ⟨hres.symm, rfl⟩ hE hS9 (Nat.le_of_ble_eq_true rfl) (Nat.le_of_ble_eq_true rfl) hfree
  · replace hres := omS hres
    refine lv_astore_n (lv' := [(2, .ref (B (400 + k3))), (0, .ref h0), (1, .int p1)]) hx hb (dd_of dX11_needDyke_0 4 rfl) rfl hl (by decide) rfl (fun ls hl => ?_)
    refine lv_aload_n hx hb (dd_of dX11_needDyke_0 5 rfl) rfl (lv_at hl 0 rfl) ?_
    refine lv_ifnonnull (tgt := 24) hx hb (dd_of dX11_needDyke_0 6 rfl) (by decide) ?_
    refine lv_aload_n hx hb (dd_of dX11_needDyke_0 12 rfl) rfl (lv_at hl 0 rfl) ?_
    subst hQ
    refine vx_ret (W.widen (k := 1) (n := 6) (Nat.le_of_ble_eq_true rfl) (Nat.le_of_ble_eq_true rfl) ?_)
    exact W.aret (v := .ref (B (400 + k3))) (rt := .object "Polderwardens$Dyke") hx hb hr (Or.inl ⟨_, rfl⟩) (Or.inr ⟨_, rfl⟩) (fun t ht hW => ⟨⟨some (B (400 + k3)), (), rfl, ⟨k3, hres.symm, rfl⟩, trivial⟩, hS9.F ht⟩) (fun z hz => hfree _ (hS9.2.2 z hz)) (dd_of dX11_needDyke_0 13 rfl) hlk
set_option maxHeartbeats 4000000 in
set_option maxRecDepth 100000 in
theorem qX11_needCrew (l : Launch) (hl9 : l.stackTraces = false) (D : va_G) (yy : Nat → ClassId) (h0 an : Nat) (B B2 : Nat → Nat) (F : jF) (G : jG) (F2 : jF) (G2 : jG) (M : jF) (sz : Nat) (p1 : Int32) (hok : okX11_needCrew F G p1) : vx_Met l yX11_needCrew (Cond.code yX11_needCrew cX11_needCrew 3 (some (.object "Polderwardens$Crew")) :: wsL_law) rmX11_needCrew (va_Pc [.ref h0, .int p1] (jV D yy (pV yy h0 an B B2 F G F2 G2 M) sz)) (va_Qq (fun r (_ : Unit) => ∃ k, gX11_needCrew F G p1 = some k ∧ r = some (B (700 + k))) (fun _ _ => True) (jE sz)) (vx_X (fun _ : Unit => True) (fun E _ _ => gX11_needCrew F G p1 = none ∧ E = xI) (jE sz)) 1 6 (jE sz) := by
  generalize hres : gX11_needCrew F G p1 = RES
  refine jMX (vs := [.ref h0, .int p1]) (own := RX11) (by decide +kernel) rfl (Nat.le_of_ble_eq_true rfl) ?_
  intro p e s m args below meth c ls Q hQ hargs S hr hlk htab hB hl
  obtain ⟨hx, hb, hml, hown, hts⟩ := S
  have hl : lv_has ls 3 [(0, .ref h0), (1, .int p1)] := hl
  obtain ⟨⟨hsz, hV, hK⟩, hT⟩ := hB
  subst hsz
  have hE : ∀ q, jE s.heap.size q → jE s.heap.size q := fun _ h => h
  have hfree : ∀ q, jE s.heap.size q → jE s.heap.size q := fun _ h => h
  have hA : ∀ q : Nat, s.heap.size ≤ q → jE s.heap.size q := fun _ h => h
  obtain ⟨H, hH⟩ : ∃ z, z = s.heap := ⟨_, rfl⟩
  obtain ⟨locs, hlocs⟩ : ∃ z : List Loc, z = [] := ⟨_, rfl⟩
  have hS9 : va_S (jE s.heap.size) s.heap H locs := by rw [hH, hlocs]; exact va_S.rf
  have hS := hS9
  rw [← hH] at hV
  have hP : va_P D vwCl (lW yy B F G) H := fun k q hk => hV (2 + k) q (ap_get (ap_getl hk))
  suffices hgo : W p l e rmX11_needCrew s m args below meth c H locs 0 0 Q (F0 m 0 ls []) by rw [hH, hlocs] at hgo; exact hgo
  unfold gX11_needCrew at hres
  unfold okX11_needCrew at hok
  refine lv_aload_n hx hb (dd_of dX11_needCrew_0 0 rfl) rfl (lv_at hl 0 rfl) ?_
  refine va_get (D := D) (cl := vwCl) (tys := jT yy) (ci := 11) (v := .ref (B 0)) (C := RX11) (T := TX11) (N := 5) hx hb hts (fun w h => List.mem_cons_of_mem _ (inlX11 w h)) hown hK hV 0 rfl rfl 0 (by decide) (jw hts gw16) (fun _ h9 => h9) rfl (dd_of dX11_needCrew_0 1 rfl) ?_
  refine lv_iload_n hx hb (dd_of dX11_needCrew_0 2 rfl) rfl (lv_at hl 1 rfl) ?_
  have h1 := hok
  refine jc_q (As := [.int p1]) (rest := []) (w := (lW yy B F G)) (D := D) (yy := yy) (B := B) (off := 700) ⟨hx, hb, hml, hown, hts⟩ (qX5_crewAt l D yy B F G  p1 h1) (cwV 1 hts (jgV gw838 gw393 gw394 gw15 gw395) rfl rfl rfl (by decide +kernel) ⟨Nat.le_of_ble_eq_true rfl, Nat.le_of_ble_eq_true rfl⟩) hP hK (va_recv hK hP (ci := 5) (q0 := 0) rfl rfl) rfl hl.1 rfl (Nat.le_of_ble_eq_true rfl) (dd_of dX11_needCrew_0 3 rfl) ⟨Nat.le_of_ble_eq_true rfl, Nat.le_of_ble_eq_true rfl⟩ (fun o2 eo2 => ?_)
  replace hres := bvE eo2 hres
  rcases o2 with _ | k3
  · replace hres := omN hres
    refine lv_astore_nN (lv' := [(2, .null), (0, .ref h0), (1, .int p1)]) hx hb (dd_of dX11_needCrew_0 4 rfl) rfl hl (by decide) rfl (fun ls hl => ?_)
    refine lv_aload_nN hx hb (dd_of dX11_needCrew_0 5 rfl) rfl (lv_at hl 0 rfl) ?_
    refine lv_ifnonnullN hx hb (dd_of dX11_needCrew_0 6 rfl) ?_
    subst hQ
    exact xthroww (px := True) (B := (fun E => RES = none ∧ E = xI)) xokI (Or.inl rfl) hx hb hl9 hts hown hT hS (show (279, "no such crew") ∈ xStr by simp [xStr]) (hl.1.trans hml.symm) (dd_of dX11_needCrew_0 7 rfl) (dd_of dX11_needCrew_0 8 rfl) (dd_of dX11_needCrew_0 9 rfl) (dd_of dX11_needCrew_0 10 rfl) (dd_of dX11_needCrew_0 11 rfl) htab (Nat.le_of_ble_eq_true rfl) (Nat.le_of_ble_eq_true rfl) (Nat.le_of_ble_eq_true rfl) (Nat.le_of_ble_eq_true rfl) hlk trivial ⟨hres.symm, rfl⟩ hE hS9 (Nat.le_of_ble_eq_true rfl) (Nat.le_of_ble_eq_true rfl) hfree
  · replace hres := omS hres
    refine lv_astore_n (lv' := [(2, .ref (B (700 + k3))), (0, .ref h0), (1, .int p1)]) hx hb (dd_of dX11_needCrew_0 4 rfl) rfl hl (by decide) rfl (fun ls hl => ?_)
    refine lv_aload_n hx hb (dd_of dX11_needCrew_0 5 rfl) rfl (lv_at hl 0 rfl) ?_
    refine lv_ifnonnull (tgt := 24) hx hb (dd_of dX11_needCrew_0 6 rfl) (by decide) ?_
    refine lv_aload_n hx hb (dd_of dX11_needCrew_0 12 rfl) rfl (lv_at hl 0 rfl) ?_
    subst hQ
    refine vx_ret (W.widen (k := 1) (n := 6) (Nat.le_of_ble_eq_true rfl) (Nat.le_of_ble_eq_true rfl) ?_)
    exact W.aret (v := .ref (B (700 + k3))) (rt := .object "Polderwardens$Crew") hx hb hr (Or.inl ⟨_, rfl⟩) (Or.inr ⟨_, rfl⟩) (fun t ht hW => ⟨⟨some (B (700 + k3)), (), rfl, ⟨k3, hres.symm, rfl⟩, trivial⟩, hS9.F ht⟩) (fun z hz => hfree _ (hS9.2.2 z hz)) (dd_of dX11_needCrew_0 13 rfl) hlk
set_option maxHeartbeats 4000000 in
set_option maxRecDepth 100000 in
theorem qX11_needWay (l : Launch) (hl9 : l.stackTraces = false) (D : va_G) (yy : Nat → ClassId) (h0 an : Nat) (B B2 : Nat → Nat) (F : jF) (G : jG) (F2 : jF) (G2 : jG) (M : jF) (sz : Nat) (p1 : Int32) (p2 : Int32) (hok : okX11_needWay F G p1 p2) : vx_Met l yX11_needWay (Cond.code yX11_needWay cX11_needWay 3 none :: wsL_law) rmX11_needWay (va_Pc [.ref h0, .int p1, .int p2] (jV D yy (pV yy h0 an B B2 F G F2 G2 M) sz)) (va_Qv (fun _ : Unit => gX11_needWay F G p1 p2 = 0) (fun _ _ => True) (jE sz)) (vx_X (fun _ : Unit => True) (fun E _ _ => gX11_needWay F G p1 p2 ≠ 0 ∧ E = xN (gX11_needWay F G p1 p2)) (jE sz)) 4 24 (jE sz) := by
  generalize hres : gX11_needWay F G p1 p2 = RES
  refine jMX (vs := [.ref h0, .int p1, .int p2]) (own := RX11) (by decide +kernel) rfl (Nat.le_of_ble_eq_true rfl) ?_
  intro p e s m args below meth c ls Q hQ hargs S hr hlk htab hB hl
  obtain ⟨hx, hb, hml, hown, hts⟩ := S
  have hl : lv_has ls 3 [(0, .ref h0), (1, .int p1), (2, .int p2)] := hl
  obtain ⟨⟨hsz, hV, hK⟩, hT⟩ := hB
  subst hsz
  have hE : ∀ q, jE s.heap.size q → jE s.heap.size q := fun _ h => h
  have hfree : ∀ q, jE s.heap.size q → jE s.heap.size q := fun _ h => h
  have hA : ∀ q : Nat, s.heap.size ≤ q → jE s.heap.size q := fun _ h => h
  obtain ⟨H, hH⟩ : ∃ z, z = s.heap := ⟨_, rfl⟩
  obtain ⟨locs, hlocs⟩ : ∃ z : List Loc, z = [] := ⟨_, rfl⟩
  have hS9 : va_S (jE s.heap.size) s.heap H locs := by rw [hH, hlocs]; exact va_S.rf
  have hS := hS9
  rw [← hH] at hV
  have hP : va_P D vwCl (lW yy B F G) H := fun k q hk => hV (2 + k) q (ap_get (ap_getl hk))
  suffices hgo : W p l e rmX11_needWay s m args below meth c H locs 0 0 Q (F0 m 0 ls []) by rw [hH, hlocs] at hgo; exact hgo
  unfold gX11_needWay at hres
  unfold okX11_needWay at hok
  refine lv_aload_n hx hb (dd_of dX11_needWay_0 0 rfl) rfl (lv_at hl 0 rfl) ?_
  refine lv_iload_n hx hb (dd_of dX11_needWay_0 1 rfl) rfl (lv_at hl 1 rfl) ?_
  have hk9 := hok.1
  replace hok := hok.2
  refine xc_v (g := (gX11_needEnd F G p1)) (As := [.int p1]) (rest := []) (w := (pV yy h0 an B B2 F G F2 G2 M)) (D := D) (yy := yy) ⟨hx, hb, hml, hown, hts⟩ (qX11_needEnd l hl9 D yy h0 an B B2 F G F2 G2 M H.size p1 hk9) (cwV 1 hts (jgV gw661 gw662 gw663 gw2 gw664) rfl rfl rfl (by decide +kernel) ⟨Nat.le_of_ble_eq_true rfl, Nat.le_of_ble_eq_true rfl⟩) hV hK hT hS hA hS9 (va_recv hK hV (ci := 11) (q0 := 0) rfl rfl) rfl hl.1 rfl (Nat.le_of_ble_eq_true rfl) (dd_of dX11_needWay_0 2 rfl) ⟨Nat.le_of_ble_eq_true rfl, Nat.le_of_ble_eq_true rfl⟩ (fun E9 ce9 qx9 H locs cx ex hS9 z1 z2 z3 => ?_) (fun H locs cx hkp hS9 => ?_)
  · replace hres := ifN cx (bvE rfl hres)
    subst hQ
    exact xout (px := True) (B := (fun E => RES ≠ 0 ∧ E = xN RES)) htab hlk hS9 z1 z2 z3 trivial (by rw [← hres]; exact ⟨cx, ex⟩) (Nat.le_of_ble_eq_true rfl) (Nat.le_of_ble_eq_true rfl) hfree
  · replace hres := ifE cx (bvE rfl hres)
    replace hok := bvO rfl hok
    replace hok := hok cx
    have hS := hS9.mono hE
    have hV := hkp _ hV
    have hP := hkp _ hP
    refine lv_aload_n hx hb (dd_of dX11_needWay_0 3 rfl) rfl (lv_at hl 0 rfl) ?_
    refine lv_iload_n hx hb (dd_of dX11_needWay_0 4 rfl) rfl (lv_at hl 2 rfl) ?_
    have hk9 := hok.1
    replace hok := hok.2
    refine xc_v (g := (gX11_needEnd F G p2)) (As := [.int p2]) (rest := []) (w := (pV yy h0 an B B2 F G F2 G2 M)) (D := D) (yy := yy) ⟨hx, hb, hml, hown, hts⟩ (qX11_needEnd l hl9 D yy h0 an B B2 F G F2 G2 M H.size p2 hk9) (cwV 1 hts (jgV gw661 gw662 gw663 gw2 gw664) rfl rfl rfl (by decide +kernel) ⟨Nat.le_of_ble_eq_true rfl, Nat.le_of_ble_eq_true rfl⟩) hV hK hT hS hA hS9 (va_recv hK hV (ci := 11) (q0 := 0) rfl rfl) rfl hl.1 rfl (Nat.le_of_ble_eq_true rfl) (dd_of dX11_needWay_0 5 rfl) ⟨Nat.le_of_ble_eq_true rfl, Nat.le_of_ble_eq_true rfl⟩ (fun E9 ce9 qx9 H locs cx ex hS9 z1 z2 z3 => ?_) (fun H locs cx hkp hS9 => ?_)
    · replace hres := ifN cx (bvE rfl hres)
      subst hQ
      exact xout (px := True) (B := (fun E => RES ≠ 0 ∧ E = xN RES)) htab hlk hS9 z1 z2 z3 trivial (by rw [← hres]; exact ⟨cx, ex⟩) (Nat.le_of_ble_eq_true rfl) (Nat.le_of_ble_eq_true rfl) hfree
    · replace hres := ifE cx (bvE rfl hres)
      replace hok := bvO rfl hok
      replace hok := hok cx
      have hS := hS9.mono hE
      have hV := hkp _ hV
      have hP := hkp _ hP
      refine lv_aload_n hx hb (dd_of dX11_needWay_0 6 rfl) rfl (lv_at hl 0 rfl) ?_
      refine lv_iload_n hx hb (dd_of dX11_needWay_0 7 rfl) rfl (lv_at hl 1 rfl) ?_
      refine lv_iload_n hx hb (dd_of dX11_needWay_0 8 rfl) rfl (lv_at hl 2 rfl) ?_
      refine xc_v (g := (gX11_needDifferent p1 p2)) (As := [.int p1, .int p2]) (rest := []) (w := ([] : va_W)) (D := D) (yy := yy) ⟨hx, hb, hml, hown, hts⟩ (qX11_needDifferent l hl9 D yy h0 H.size p1 p2) (cwV 2 hts (jgV gw641 gw642 gw643 gw2 gw644) rfl rfl rfl (by decide +kernel) ⟨Nat.le_of_ble_eq_true rfl, Nat.le_of_ble_eq_true rfl⟩) (fun k q h => by simp at h) hK hT hS hA hS9 (va_recv hK hV (ci := 11) (q0 := 0) rfl rfl) rfl hl.1 rfl (Nat.le_of_ble_eq_true rfl) (dd_of dX11_needWay_0 9 rfl) ⟨Nat.le_of_ble_eq_true rfl, Nat.le_of_ble_eq_true rfl⟩ (fun E9 ce9 qx9 H locs cx ex hS9 z1 z2 z3 => ?_) (fun H locs cx hkp hS9 => ?_)
      · replace hres := ifN cx (bvE rfl hres)
        subst hQ
        exact xout (px := True) (B := (fun E => RES ≠ 0 ∧ E = xN RES)) htab hlk hS9 z1 z2 z3 trivial (by rw [← hres]; exact ⟨cx, ex⟩) (Nat.le_of_ble_eq_true rfl) (Nat.le_of_ble_eq_true rfl) hfree
      · replace hres := ifE cx (bvE rfl hres)
        replace hok := bvO rfl hok
        replace hok := hok cx
        have hS := hS9.mono hE
        have hV := hkp _ hV
        have hP := hkp _ hP
        refine lv_aload_n hx hb (dd_of dX11_needWay_0 10 rfl) rfl (lv_at hl 0 rfl) ?_
        refine va_get (D := D) (cl := vwCl) (tys := jT yy) (ci := 11) (v := .ref (B 0)) (C := RX11) (T := TX11) (N := 5) hx hb hts (fun w h => List.mem_cons_of_mem _ (inlX11 w h)) hown hK hV 0 rfl rfl 0 (by decide) (jw hts gw16) (fun _ h9 => h9) rfl (dd_of dX11_needWay_0 11 rfl) ?_
        refine va_get (D := D) (cl := vwCl) (tys := jT yy) (ci := 5) (v := .ref (B 1)) (C := RX5) (T := TX5) (N := 10) hx hb hts (fun w h => List.mem_cons_of_mem _ (inlX5 w h)) hown hK hP 0 rfl rfl 0 (by decide) (jw hts gw181) (fun _ h9 => h9) rfl (dd_of dX11_needWay_0 12 rfl) ?_
        refine lv_iload_n hx hb (dd_of dX11_needWay_0 13 rfl) rfl (lv_at hl 1 rfl) ?_
        have h4 := hok.1
        replace hok := hok.2
        refine jc_q (As := [.int p1]) (rest := []) (w := (lW yy B F G)) (D := D) (yy := yy) (B := B) (off := 100) ⟨hx, hb, hml, hown, hts⟩ (qX10_basinAt l D yy B F G  p1 h4) (cwV 1 hts (jgV gw612 gw231 gw232 gw26 gw233) rfl rfl rfl (by decide +kernel) ⟨Nat.le_of_ble_eq_true rfl, Nat.le_of_ble_eq_true rfl⟩) hP hK (va_recv hK hP (ci := 10) (q0 := 1) rfl rfl) rfl hl.1 rfl (Nat.le_of_ble_eq_true rfl) (dd_of dX11_needWay_0 14 rfl) ⟨Nat.le_of_ble_eq_true rfl, Nat.le_of_ble_eq_true rfl⟩ (fun o5 eo5 => ?_)
        replace hres := bvE eo5 hres
        replace hok := bvO eo5 hok
        rcases o5 with _ | k6
        · replace hres := omN hres
          replace hok := opN hok
          refine lv_ifnonnullN hx hb (dd_of dX11_needWay_0 15 rfl) ?_
          refine lv_aload_n hx hb (dd_of dX11_needWay_0 16 rfl) rfl (lv_at hl 0 rfl) ?_
          refine va_get (D := D) (cl := vwCl) (tys := jT yy) (ci := 11) (v := .ref (B 0)) (C := RX11) (T := TX11) (N := 5) hx hb hts (fun w h => List.mem_cons_of_mem _ (inlX11 w h)) hown hK hV 0 rfl rfl 0 (by decide) (jw hts gw16) (fun _ h9 => h9) rfl (dd_of dX11_needWay_0 17 rfl) ?_
          refine va_get (D := D) (cl := vwCl) (tys := jT yy) (ci := 5) (v := .ref (B 1)) (C := RX5) (T := TX5) (N := 10) hx hb hts (fun w h => List.mem_cons_of_mem _ (inlX5 w h)) hown hK hP 0 rfl rfl 0 (by decide) (jw hts gw181) (fun _ h9 => h9) rfl (dd_of dX11_needWay_0 18 rfl) ?_
          refine lv_iload_n hx hb (dd_of dX11_needWay_0 19 rfl) rfl (lv_at hl 2 rfl) ?_
          have h7 := hok
          refine jc_q (As := [.int p2]) (rest := []) (w := (lW yy B F G)) (D := D) (yy := yy) (B := B) (off := 100) ⟨hx, hb, hml, hown, hts⟩ (qX10_basinAt l D yy B F G  p2 h7) (cwV 1 hts (jgV gw612 gw231 gw232 gw26 gw233) rfl rfl rfl (by decide +kernel) ⟨Nat.le_of_ble_eq_true rfl, Nat.le_of_ble_eq_true rfl⟩) hP hK (va_recv hK hP (ci := 10) (q0 := 1) rfl rfl) rfl hl.1 rfl (Nat.le_of_ble_eq_true rfl) (dd_of dX11_needWay_0 20 rfl) ⟨Nat.le_of_ble_eq_true rfl, Nat.le_of_ble_eq_true rfl⟩ (fun o8 eo8 => ?_)
          replace hres := bvE eo8 hres
          rcases o8 with _ | k9
          · replace hres := omN hres
            refine lv_ifnonnullN hx hb (dd_of dX11_needWay_0 21 rfl) ?_
            subst hQ
            exact xthroww (px := True) (B := (fun E => RES ≠ 0 ∧ E = xN RES)) xokA (Or.inr (Or.inl rfl)) hx hb hl9 hts hown hT hS (show (257, "no end is a basin") ∈ xStr by simp [xStr]) (hl.1.trans hml.symm) (dd_of dX11_needWay_0 22 rfl) (dd_of dX11_needWay_0 23 rfl) (dd_of dX11_needWay_0 24 rfl) (dd_of dX11_needWay_0 25 rfl) (dd_of dX11_needWay_0 26 rfl) htab (Nat.le_of_ble_eq_true rfl) (Nat.le_of_ble_eq_true rfl) (Nat.le_of_ble_eq_true rfl) (Nat.le_of_ble_eq_true rfl) hlk trivial (by rw [← hres]; exact ⟨by decide, rfl⟩) hE hS9 (Nat.le_of_ble_eq_true rfl) (Nat.le_of_ble_eq_true rfl) hfree
          · replace hres := omS hres
            refine lv_ifnonnull (tgt := 55) hx hb (dd_of dX11_needWay_0 21 rfl) (by decide) ?_
            subst hQ
            refine vx_ret (W.widen (k := 4) (n := 24) (Nat.le_of_ble_eq_true rfl) (Nat.le_of_ble_eq_true rfl) ?_)
            exact W.vret hx hb hr (fun t ht hW => ⟨⟨(), rfl, hres.symm, trivial⟩, hS9.F ht⟩) (fun z hz => hfree _ (hS9.2.2 z hz)) (dd_of dX11_needWay_0 27 rfl) hlk
        · replace hres := omS hres
          replace hok := opS hok
          refine lv_ifnonnull (tgt := 55) hx hb (dd_of dX11_needWay_0 15 rfl) (by decide) ?_
          subst hQ
          refine vx_ret (W.widen (k := 4) (n := 24) (Nat.le_of_ble_eq_true rfl) (Nat.le_of_ble_eq_true rfl) ?_)
          exact W.vret hx hb hr (fun t ht hW => ⟨⟨(), rfl, hres.symm, trivial⟩, hS9.F ht⟩) (fun z hz => hfree _ (hS9.2.2 z hz)) (dd_of dX11_needWay_0 27 rfl) hlk
