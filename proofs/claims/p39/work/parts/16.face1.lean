def gX11_hour (F : jF) (G : jG) (M : jF)  : (Nat × Int32) := (0, (F 0 0))
abbrev rmX11_hour : Room := { frames := 0, cells := 9, slots := 64, locals := 0 }
def gX11_money (F : jF) (G : jG) (M : jF)  : (Nat × Int32) := (0, (F 62 0))
abbrev rmX11_money : Room := { frames := 0, cells := 9, slots := 64, locals := 0 }
def gX11_level (F : jF) (G : jG) (M : jF) (p1 : Int32) : (Nat × Int64) := bv (gX11_needEnd F G p1) (fun c9 : Nat => (if c9 = 0 then bv (gX10_heightOf F G  p1) (fun x3 : Int64 => (0, x3)) else (c9, 0)))
def okX11_level (F : jF) (G : jG) (M : jF) (p1 : Int32) : Prop := ((okX11_needEnd F G p1) ∧ bv (gX11_needEnd F G p1) (fun c9 : Nat => (c9 = 0 → (okX10_heightOf F G  p1))))
abbrev rmX11_level : Room := { frames := 7, cells := 9, slots := 64, locals := 111 }
def gX11_water (F : jF) (G : jG) (M : jF) (p1 : Int32) : (Nat × Int64) := om (gX11_needBasin F G p1) (1, 0) (fun k1 : Nat => (0, (G 14 k1)))
def okX11_water (F : jF) (G : jG) (M : jF) (p1 : Int32) : Prop := ((okX11_needBasin F G p1) ∧ om (gX11_needBasin F G p1) True (fun k1 : Nat => (k1 < cn F 8)))
abbrev rmX11_water : Room := { frames := 7, cells := 9, slots := 64, locals := 112 }
def gX11_harm (F : jF) (G : jG) (M : jF) (p1 : Int32) : (Nat × Int64) := om (gX11_needBasin F G p1) (1, 0) (fun k1 : Nat => (0, (G 15 k1)))
def okX11_harm (F : jF) (G : jG) (M : jF) (p1 : Int32) : Prop := ((okX11_needBasin F G p1) ∧ om (gX11_needBasin F G p1) True (fun k1 : Nat => (k1 < cn F 8)))
abbrev rmX11_harm : Room := { frames := 7, cells := 9, slots := 64, locals := 112 }
def gX11_ledger (F : jF) (G : jG) (M : jF) (p1 : Int32) : (Nat × Int64) := bv (gX11_needRange p1 0 3) (fun c9 : Nat => (if c9 = 0 then bv (gX10_came F G  p1) (fun x3 : Int64 => (0, x3)) else (c9, 0)))
def okX11_ledger (F : jF) (G : jG) (M : jF) (p1 : Int32) : Prop := bv (gX11_needRange p1 0 3) (fun c9 : Nat => (c9 = 0 → (okX10_came F G  p1)))
abbrev rmX11_ledger : Room := { frames := 7, cells := 9, slots := 64, locals := 113 }
def gX11_isOpen (F : jF) (G : jG) (M : jF) (p1 : Int32) : (Nat × Int32) := om (gX11_needGate F G p1) (1, 0) (fun k1 : Nat => (0, (F 22 k1)))
def okX11_isOpen (F : jF) (G : jG) (M : jF) (p1 : Int32) : Prop := ((okX11_needGate F G p1) ∧ om (gX11_needGate F G p1) True (fun k1 : Nat => (k1 < cn F 17 ∧ (jb (F 22 k1)))))
abbrev rmX11_isOpen : Room := { frames := 7, cells := 9, slots := 64, locals := 112 }
def gX11_pump (F : jF) (G : jG) (M : jF) (p1 : Int32) (p2 : Int32) : (Nat × Int32) := om (gX11_needPump F G p1) (1, 0) (fun k1 : Nat => bv (gX11_needRange p2 0 2) (fun c9 : Nat => (if c9 = 0 then (if p2 = 0 then bv ((if (F 29 k1) = 0 then 0 else 1) : Int32) (fun v10 : Int32 => (0, v10)) else bv ((if p2 = 1 then (F 30 k1) else (F 31 k1)) : Int32) (fun v7 : Int32 => (0, v7))) else (c9, 0))))
def okX11_pump (F : jF) (G : jG) (M : jF) (p1 : Int32) (p2 : Int32) : Prop := ((okX11_needPump F G p1) ∧ om (gX11_needPump F G p1) True (fun k1 : Nat => bv (gX11_needRange p2 0 2) (fun c9 : Nat => (c9 = 0 → ((p2 = 0 → (k1 < cn F 23)) ∧ (¬ p2 = 0 → ((p2 = 1 → (k1 < cn F 23)) ∧ (¬ p2 = 1 → (k1 < cn F 23)))))))))
abbrev rmX11_pump : Room := { frames := 7, cells := 9, slots := 64, locals := 113 }
def gX11_dyke (F : jF) (G : jG) (M : jF) (p1 : Int32) (p2 : Int32) : (Nat × Int32) := om (gX11_needDyke F G p1) (1, 0) (fun k1 : Nat => bv (gX11_needRange p2 0 2) (fun c9 : Nat => (if c9 = 0 then (if p2 = 0 then (0, (F 35 k1)) else bv ((if p2 = 1 then (Int64.toInt32 (G 61 k1)) else (F 39 k1)) : Int32) (fun v7 : Int32 => (0, v7))) else (c9, 0))))
def okX11_dyke (F : jF) (G : jG) (M : jF) (p1 : Int32) (p2 : Int32) : Prop := ((okX11_needDyke F G p1) ∧ om (gX11_needDyke F G p1) True (fun k1 : Nat => bv (gX11_needRange p2 0 2) (fun c9 : Nat => (c9 = 0 → ((p2 = 0 → (k1 < cn F 32)) ∧ (¬ p2 = 0 → ((p2 = 1 → (k1 < cn F 32)) ∧ (¬ p2 = 1 → (k1 < cn F 32)))))))))
abbrev rmX11_dyke : Room := { frames := 7, cells := 9, slots := 64, locals := 113 }
def gX11_crew (F : jF) (G : jG) (M : jF) (p1 : Int32) (p2 : Int32) : (Nat × Int32) := om (gX11_needCrew F G p1) (1, 0) (fun k1 : Nat => bv (gX11_needRange p2 0 2) (fun c9 : Nat => (if c9 = 0 then (if p2 = 0 then (0, (F 49 k1)) else bv ((if p2 = 1 then (F 50 k1) else (F 64 k1)) : Int32) (fun v7 : Int32 => (0, v7))) else (c9, 0))))
def okX11_crew (F : jF) (G : jG) (M : jF) (p1 : Int32) (p2 : Int32) : Prop := ((okX11_needCrew F G p1) ∧ om (gX11_needCrew F G p1) True (fun k1 : Nat => bv (gX11_needRange p2 0 2) (fun c9 : Nat => (c9 = 0 → ((p2 = 0 → (k1 < 3)) ∧ (¬ p2 = 0 → ((p2 = 1 → (k1 < 3)) ∧ (¬ p2 = 1 → (k1 < 3)))))))))
abbrev rmX11_crew : Room := { frames := 7, cells := 9, slots := 64, locals := 113 }
def gX11_sea (F : jF) (G : jG) (M : jF) (p1 : Int32) : (Nat × Int64) := bv (gX11_needRange p1 0 9999) (fun c9 : Nat => (if c9 = 0 then bv (gX6_seaAt F G  p1) (fun x3 : Int64 => (0, x3)) else (c9, 0)))
def okX11_sea (F : jF) (G : jG) (M : jF) (p1 : Int32) : Prop := bv (gX11_needRange p1 0 9999) (fun c9 : Nat => (c9 = 0 → (okX6_seaAt F G  p1)))
abbrev rmX11_sea : Room := { frames := 7, cells := 9, slots := 64, locals := 113 }
def gX11_forecast (F : jF) (G : jG) (M : jF) (p1 : Int32) : (Nat × Int64) := bv (gX11_needRange p1 1 48) (fun c9 : Nat => (if c9 = 0 then bv (gX6_foresee F G  (F 0 0) p1) (fun x3 : Int64 => (0, x3)) else (c9, 0)))
def okX11_forecast (F : jF) (G : jG) (M : jF) (p1 : Int32) : Prop := bv (gX11_needRange p1 1 48) (fun c9 : Nat => (c9 = 0 → (okX6_foresee F G  (F 0 0) p1)))
abbrev rmX11_forecast : Room := { frames := 7, cells := 9, slots := 64, locals := 116 }
def gX11_record (F : jF) (G : jG) (M : jF) (p1 : Int32) : (Nat × Int64) := (if p1 < 0 then (1, 0) else (if p1 < (F 1 0) then bv (gX1_greatestIn F G  p1) (fun x4 : Int64 => (0, x4)) else (1, 0)))
def okX11_record (F : jF) (G : jG) (M : jF) (p1 : Int32) : Prop := ((p1 < 0 → True) ∧ (¬ p1 < 0 → ((p1 < (F 1 0) → (okX1_greatestIn F G  p1)) ∧ (¬ p1 < (F 1 0) → True))))
abbrev rmX11_record : Room := { frames := 6, cells := 9, slots := 64, locals := 90 }
def gX11_nextHeight (F : jF) (G : jG) (M : jF) (p1 : Int32) (p2 : Int32) : (Nat × Int64) := bv (gX11_needRange p1 1 20) (fun c9 : Nat => (if c9 = 0 then bv (gX11_needRange p2 1 p1) (fun c9 : Nat => (if c9 = 0 then bv ((if (F 1 0) < p1 then 0 else 1) : Int32) (fun v4 : Int32 => bv (gX11_needState v4) (fun c9 : Nat => (if c9 = 0 then bv (gX1_rankedOf F G  p1 p2) (fun x7 : Int64 => bv ((if x7 = (-9223372036854775808) then 0 else 1) : Int32) (fun v9 : Int32 => bv (gX11_needState v9) (fun c9 : Nat => (if c9 = 0 then bv (gJ9_floorDiv_f86c9 (-x7) 100) (fun x12 : Int64 => (0, (50 - x12))) else (c9, 0))))) else (c9, 0)))) else (c9, 0))) else (c9, 0)))
def okX11_nextHeight (F : jF) (G : jG) (M : jF) (p1 : Int32) (p2 : Int32) : Prop := bv (gX11_needRange p1 1 20) (fun c9 : Nat => (c9 = 0 → bv (gX11_needRange p2 1 p1) (fun c9 : Nat => (c9 = 0 → bv ((if (F 1 0) < p1 then 0 else 1) : Int32) (fun v4 : Int32 => bv (gX11_needState v4) (fun c9 : Nat => (c9 = 0 → ((okX1_rankedOf F G  p1 p2) ∧ bv (gX1_rankedOf F G  p1 p2) (fun x7 : Int64 => bv ((if x7 = (-9223372036854775808) then 0 else 1) : Int32) (fun v9 : Int32 => bv (gX11_needState v9) (fun c9 : Nat => (c9 = 0 → (okJ9_floorDiv_f86c9 (-x7) 100)))))))))))))
abbrev rmX11_nextHeight : Room := { frames := 7, cells := 9, slots := 64, locals := 113 }
def gX11_share (F : jF) (G : jG) (M : jF) (p1 : Int32) (p2 : Int32) : (Nat × Int32) := om (gX11_needBasin F G p2) (1, 0) (fun k1 : Nat => bv (gX11_needRange p1 0 999999) (fun c9 : Nat => (if c9 = 0 then bv (gX5_partOf F G  (Int32.toInt64 p1) p2) (fun x4 : Int64 => (0, (Int64.toInt32 x4))) else (c9, 0))))
def okX11_share (F : jF) (G : jG) (M : jF) (p1 : Int32) (p2 : Int32) : Prop := ((okX11_needBasin F G p2) ∧ om (gX11_needBasin F G p2) True (fun k1 : Nat => bv (gX11_needRange p1 0 999999) (fun c9 : Nat => (c9 = 0 → (okX5_partOf F G  (Int32.toInt64 p1) p2)))))
abbrev rmX11_share : Room := { frames := 7, cells := 9, slots := 64, locals := 126 }
def gX11_digest (F : jF) (G : jG) (M : jF)  : (Nat × Int64) := bv (gX5_sumOfAll F G  ) (fun x2 : Int64 => (0, x2))
def okX11_digest (F : jF) (G : jG) (M : jF)  : Prop := (okX5_sumOfAll F G  )
abbrev rmX11_digest : Room := { frames := 3, cells := 9, slots := 64, locals := 68 }
set_option maxHeartbeats 4000000 in
set_option maxRecDepth 100000 in
theorem qX11_hour (l : Launch) (hl9 : l.stackTraces = false) (D : va_G) (yy : Nat → ClassId) (h0 an : Nat) (B B2 : Nat → Nat) (F : jF) (G : jG) (F2 : jF) (G2 : jG) (M : jF) (sz : Nat)  : vx_Met l yX11_hour (Cond.code yX11_hour cX11_hour 1 (some .int) :: wsL_law) rmX11_hour (va_Pc [.ref h0] (jV D yy (pV yy h0 an B B2 F G F2 G2 M) sz)) (va_Qi (fun r (_ : Unit) => gX11_hour F G M  = (0, r)) (fun _ _ => True) (jE sz)) (vx_X (fun _ : Unit => True) (fun E _ _ => (gX11_hour F G M ).1 ≠ 0 ∧ E = xN (gX11_hour F G M ).1) (jE sz)) 9 64 (jE sz) := by
  generalize hres : gX11_hour F G M  = RES
  refine jMX (vs := [.ref h0]) (own := RX11) (by decide +kernel) rfl (Nat.le_of_ble_eq_true rfl) ?_
  intro p e s m args below meth c ls Q hQ hargs S hr hlk htab hB hl
  obtain ⟨hx, hb, hml, hown, hts⟩ := S
  have hl : lv_has ls 1 [(0, .ref h0)] := hl

  obtain ⟨⟨hsz, hV, hK⟩, hT⟩ := hB
  subst hsz
  have hE : ∀ q, jE s.heap.size q → jE s.heap.size q := fun _ h => h
  have hfree : ∀ q, jE s.heap.size q → jE s.heap.size q := fun _ h => h
  have hA : ∀ q : Nat, s.heap.size ≤ q → jE s.heap.size q := fun _ h => h
  obtain ⟨H, hH⟩ : ∃ z, z = s.heap := ⟨_, rfl⟩
  obtain ⟨locs, hlocs⟩ : ∃ z : List Loc, z = [] := ⟨_, rfl⟩
  have hS9 : va_S (jE s.heap.size) s.heap H locs := by rw [hH, hlocs]; exact va_S.rf
  have hS := hS9
  rw [← hH] at hV
  have hP : va_P D vwCl (lW yy B F G) H := fun k q hk => hV (2 + k) q (ap_get (ap_getl hk))
  suffices hgo : W p l e rmX11_hour s m args below meth c H locs 0 0 Q (F0 m 0 ls []) by rw [hH, hlocs] at hgo; exact hgo
  unfold gX11_hour at hres
  refine lv_aload_n hx hb (dd_of dX11_hour_0 0 rfl) rfl (lv_at hl 0 rfl) ?_
  refine va_get (D := D) (cl := vwCl) (tys := jT yy) (ci := 11) (v := .ref (B 0)) (C := RX11) (T := TX11) (N := 5) hx hb hts (fun w h => List.mem_cons_of_mem _ (inlX11 w h)) hown hK hV 0 rfl rfl 0 (by decide) (jw hts gw16) (fun _ h9 => h9) rfl (dd_of dX11_hour_0 1 rfl) ?_
  refine va_get (D := D) (cl := vwCl) (tys := jT yy) (ci := 5) (v := .ref (B 1)) (C := RX5) (T := TX5) (N := 10) hx hb hts (fun w h => List.mem_cons_of_mem _ (inlX5 w h)) hown hK hP 0 rfl rfl 0 (by decide) (jw hts gw181) (fun _ h9 => h9) rfl (dd_of dX11_hour_0 2 rfl) ?_
  refine va_get (D := D) (cl := vwCl) (tys := jT yy) (ci := 10) (v := .int (F 0 0)) (C := RX10) (T := TX10) (N := 8) hx hb hts (fun w h => List.mem_cons_of_mem _ (inlX10 w h)) hown hK hP 1 rfl rfl 6 (by decide) (jw hts gw884) (fun _ h9 => h9) rfl (dd_of dX11_hour_0 3 rfl) ?_
  subst hQ
  refine vx_ret (W.widen (k := 9) (n := 64) (Nat.le_of_ble_eq_true rfl) (Nat.le_of_ble_eq_true rfl) ?_)
  exact W.iret (v := (F 0 0)) hx hb hr (fun t ht hW => ⟨⟨(F 0 0), (), rfl, hres.symm, trivial⟩, hS9.F ht⟩) (fun z hz => hfree _ (hS9.2.2 z hz)) (dd_of dX11_hour_0 4 rfl) hlk
set_option maxHeartbeats 4000000 in
set_option maxRecDepth 100000 in
theorem qX11_money (l : Launch) (hl9 : l.stackTraces = false) (D : va_G) (yy : Nat → ClassId) (h0 an : Nat) (B B2 : Nat → Nat) (F : jF) (G : jG) (F2 : jF) (G2 : jG) (M : jF) (sz : Nat)  : vx_Met l yX11_money (Cond.code yX11_money cX11_money 1 (some .int) :: wsL_law) rmX11_money (va_Pc [.ref h0] (jV D yy (pV yy h0 an B B2 F G F2 G2 M) sz)) (va_Qi (fun r (_ : Unit) => gX11_money F G M  = (0, r)) (fun _ _ => True) (jE sz)) (vx_X (fun _ : Unit => True) (fun E _ _ => (gX11_money F G M ).1 ≠ 0 ∧ E = xN (gX11_money F G M ).1) (jE sz)) 9 64 (jE sz) := by
  generalize hres : gX11_money F G M  = RES
  refine jMX (vs := [.ref h0]) (own := RX11) (by decide +kernel) rfl (Nat.le_of_ble_eq_true rfl) ?_
  intro p e s m args below meth c ls Q hQ hargs S hr hlk htab hB hl
  obtain ⟨hx, hb, hml, hown, hts⟩ := S
  have hl : lv_has ls 1 [(0, .ref h0)] := hl

  obtain ⟨⟨hsz, hV, hK⟩, hT⟩ := hB
  subst hsz
  have hE : ∀ q, jE s.heap.size q → jE s.heap.size q := fun _ h => h
  have hfree : ∀ q, jE s.heap.size q → jE s.heap.size q := fun _ h => h
  have hA : ∀ q : Nat, s.heap.size ≤ q → jE s.heap.size q := fun _ h => h
  obtain ⟨H, hH⟩ : ∃ z, z = s.heap := ⟨_, rfl⟩
  obtain ⟨locs, hlocs⟩ : ∃ z : List Loc, z = [] := ⟨_, rfl⟩
  have hS9 : va_S (jE s.heap.size) s.heap H locs := by rw [hH, hlocs]; exact va_S.rf
  have hS := hS9
  rw [← hH] at hV
  have hP : va_P D vwCl (lW yy B F G) H := fun k q hk => hV (2 + k) q (ap_get (ap_getl hk))
  suffices hgo : W p l e rmX11_money s m args below meth c H locs 0 0 Q (F0 m 0 ls []) by rw [hH, hlocs] at hgo; exact hgo
  unfold gX11_money at hres
  refine lv_aload_n hx hb (dd_of dX11_money_0 0 rfl) rfl (lv_at hl 0 rfl) ?_
  refine va_get (D := D) (cl := vwCl) (tys := jT yy) (ci := 11) (v := .ref (B 0)) (C := RX11) (T := TX11) (N := 5) hx hb hts (fun w h => List.mem_cons_of_mem _ (inlX11 w h)) hown hK hV 0 rfl rfl 0 (by decide) (jw hts gw16) (fun _ h9 => h9) rfl (dd_of dX11_money_0 1 rfl) ?_
  refine va_get (D := D) (cl := vwCl) (tys := jT yy) (ci := 5) (v := .ref (B 2)) (C := RX5) (T := TX5) (N := 10) hx hb hts (fun w h => List.mem_cons_of_mem _ (inlX5 w h)) hown hK hP 0 rfl rfl 1 (by decide) (jw hts gw808) (fun _ h9 => h9) rfl (dd_of dX11_money_0 2 rfl) ?_
  refine va_get (D := D) (cl := vwCl) (tys := jT yy) (ci := 1) (v := .int (F 62 0)) (C := RX1) (T := TX1) (N := 8) hx hb hts (fun w h => List.mem_cons_of_mem _ (inlX1 w h)) hown hK hP 2 rfl rfl 0 (by decide) (jw hts gw809) (fun _ h9 => h9) rfl (dd_of dX11_money_0 3 rfl) ?_
  subst hQ
  refine vx_ret (W.widen (k := 9) (n := 64) (Nat.le_of_ble_eq_true rfl) (Nat.le_of_ble_eq_true rfl) ?_)
  exact W.iret (v := (F 62 0)) hx hb hr (fun t ht hW => ⟨⟨(F 62 0), (), rfl, hres.symm, trivial⟩, hS9.F ht⟩) (fun z hz => hfree _ (hS9.2.2 z hz)) (dd_of dX11_money_0 4 rfl) hlk
set_option maxHeartbeats 4000000 in
set_option maxRecDepth 100000 in
theorem qX11_level (l : Launch) (hl9 : l.stackTraces = false) (D : va_G) (yy : Nat → ClassId) (h0 an : Nat) (B B2 : Nat → Nat) (F : jF) (G : jG) (F2 : jF) (G2 : jG) (M : jF) (sz : Nat) (p1 : Int32) (hok : okX11_level F G M p1) : vx_Met l yX11_level (Cond.code yX11_level cX11_level 2 (some .long) :: wsL_law) rmX11_level (va_Pc [.ref h0, .int p1] (jV D yy (pV yy h0 an B B2 F G F2 G2 M) sz)) (va_Ql (fun r (_ : Unit) => gX11_level F G M p1 = (0, r)) (fun _ _ => True) (jE sz)) (vx_X (fun _ : Unit => True) (fun E _ _ => (gX11_level F G M p1).1 ≠ 0 ∧ E = xN (gX11_level F G M p1).1) (jE sz)) 9 64 (jE sz) := by
  generalize hres : gX11_level F G M p1 = RES
  refine jMX (vs := [.ref h0, .int p1]) (own := RX11) (by decide +kernel) rfl (Nat.le_of_ble_eq_true rfl) ?_
  intro p e s m args below meth c ls Q hQ hargs S hr hlk htab hB hl
  obtain ⟨hx, hb, hml, hown, hts⟩ := S
  have hl : lv_has ls 2 [(0, .ref h0), (1, .int p1)] := hl

  obtain ⟨⟨hsz, hV, hK⟩, hT⟩ := hB
  subst hsz
  have hE : ∀ q, jE s.heap.size q → jE s.heap.size q := fun _ h => h
  have hfree : ∀ q, jE s.heap.size q → jE s.heap.size q := fun _ h => h
  have hA : ∀ q : Nat, s.heap.size ≤ q → jE s.heap.size q := fun _ h => h
  obtain ⟨H, hH⟩ : ∃ z, z = s.heap := ⟨_, rfl⟩
  obtain ⟨locs, hlocs⟩ : ∃ z : List Loc, z = [] := ⟨_, rfl⟩
  have hS9 : va_S (jE s.heap.size) s.heap H locs := by rw [hH, hlocs]; exact va_S.rf
  have hS := hS9
  rw [← hH] at hV
  have hP : va_P D vwCl (lW yy B F G) H := fun k q hk => hV (2 + k) q (ap_get (ap_getl hk))
  suffices hgo : W p l e rmX11_level s m args below meth c H locs 0 0 Q (F0 m 0 ls []) by rw [hH, hlocs] at hgo; exact hgo
  unfold gX11_level at hres
  unfold okX11_level at hok
  refine lv_aload_n hx hb (dd_of dX11_level_0 0 rfl) rfl (lv_at hl 0 rfl) ?_
  refine lv_iload_n hx hb (dd_of dX11_level_0 1 rfl) rfl (lv_at hl 1 rfl) ?_
  have hk9 := hok.1
  replace hok := hok.2
  refine xc_v (g := (gX11_needEnd F G p1)) (As := [.int p1]) (rest := []) (w := (pV yy h0 an B B2 F G F2 G2 M)) (D := D) (yy := yy) ⟨hx, hb, hml, hown, hts⟩ (qX11_needEnd l hl9 D yy h0 an B B2 F G F2 G2 M H.size p1 hk9) (cwV 1 hts (jgV gw661 gw662 gw663 gw2 gw664) rfl rfl rfl (by decide +kernel) ⟨Nat.le_of_ble_eq_true rfl, Nat.le_of_ble_eq_true rfl⟩) hV hK hT hS hA hS9 (va_recv hK hV (ci := 11) (q0 := 0) rfl rfl) rfl hl.1 rfl (Nat.le_of_ble_eq_true rfl) (dd_of dX11_level_0 2 rfl) ⟨Nat.le_of_ble_eq_true rfl, Nat.le_of_ble_eq_true rfl⟩ (fun E9 ce9 qx9 H locs cx ex hS9 z1 z2 z3 => ?_) (fun H locs cx hkp hS9 => ?_)
  · replace hres := ifN cx (bvE rfl hres)
    subst hQ
    exact xout (px := True) (B := (fun E => RES.1 ≠ 0 ∧ E = xN RES.1)) htab hlk hS9 z1 z2 z3 trivial (by rw [← hres]; exact ⟨cx, ex⟩) (Nat.le_of_ble_eq_true rfl) (Nat.le_of_ble_eq_true rfl) hfree
  · replace hres := ifE cx (bvE rfl hres)
    replace hok := bvO rfl hok
    replace hok := hok cx
    have hS := hS9.mono hE
    have hV := hkp _ hV
    have hP := hkp _ hP
    refine lv_aload_n hx hb (dd_of dX11_level_0 3 rfl) rfl (lv_at hl 0 rfl) ?_
    refine va_get (D := D) (cl := vwCl) (tys := jT yy) (ci := 11) (v := .ref (B 0)) (C := RX11) (T := TX11) (N := 5) hx hb hts (fun w h => List.mem_cons_of_mem _ (inlX11 w h)) hown hK hV 0 rfl rfl 0 (by decide) (jw hts gw16) (fun _ h9 => h9) rfl (dd_of dX11_level_0 4 rfl) ?_
    refine va_get (D := D) (cl := vwCl) (tys := jT yy) (ci := 5) (v := .ref (B 1)) (C := RX5) (T := TX5) (N := 10) hx hb hts (fun w h => List.mem_cons_of_mem _ (inlX5 w h)) hown hK hP 0 rfl rfl 0 (by decide) (jw hts gw181) (fun _ h9 => h9) rfl (dd_of dX11_level_0 5 rfl) ?_
    refine lv_iload_n hx hb (dd_of dX11_level_0 6 rfl) rfl (lv_at hl 1 rfl) ?_
    have h2 := hok
    refine jc_l (As := [.int p1]) (rest := []) (w := (lW yy B F G)) (D := D) (yy := yy) ⟨hx, hb, hml, hown, hts⟩ (qX10_heightOf l D yy B F G  p1 h2) (cwV 1 hts (jgV gw992 gw359 gw360 gw26 gw361) rfl rfl rfl (by decide +kernel) ⟨Nat.le_of_ble_eq_true rfl, Nat.le_of_ble_eq_true rfl⟩) hP hK (va_recv hK hP (ci := 10) (q0 := 1) rfl rfl) rfl hl.1 rfl (Nat.le_of_ble_eq_true rfl) (dd_of dX11_level_0 7 rfl) ⟨Nat.le_of_ble_eq_true rfl, Nat.le_of_ble_eq_true rfl⟩ (fun x3 ex3 => ?_)
    replace hres := bvE ex3 hres
    subst hQ
    refine vx_ret (W.widen (k := 9) (n := 64) (Nat.le_of_ble_eq_true rfl) (Nat.le_of_ble_eq_true rfl) ?_)
    exact W.lret (v := x3) hx hb hr (fun t ht hW => ⟨⟨x3, (), rfl, hres.symm, trivial⟩, hS9.F ht⟩) (fun z hz => hfree _ (hS9.2.2 z hz)) (dd_of dX11_level_0 8 rfl) hlk
set_option maxHeartbeats 4000000 in
set_option maxRecDepth 100000 in
theorem qX11_water (l : Launch) (hl9 : l.stackTraces = false) (D : va_G) (yy : Nat → ClassId) (h0 an : Nat) (B B2 : Nat → Nat) (F : jF) (G : jG) (F2 : jF) (G2 : jG) (M : jF) (sz : Nat) (p1 : Int32) (hok : okX11_water F G M p1) : vx_Met l yX11_water (Cond.code yX11_water cX11_water 2 (some .long) :: wsL_law) rmX11_water (va_Pc [.ref h0, .int p1] (jV D yy (pV yy h0 an B B2 F G F2 G2 M) sz)) (va_Ql (fun r (_ : Unit) => gX11_water F G M p1 = (0, r)) (fun _ _ => True) (jE sz)) (vx_X (fun _ : Unit => True) (fun E _ _ => (gX11_water F G M p1).1 ≠ 0 ∧ E = xN (gX11_water F G M p1).1) (jE sz)) 9 64 (jE sz) := by
  generalize hres : gX11_water F G M p1 = RES
  refine jMX (vs := [.ref h0, .int p1]) (own := RX11) (by decide +kernel) rfl (Nat.le_of_ble_eq_true rfl) ?_
  intro p e s m args below meth c ls Q hQ hargs S hr hlk htab hB hl
  obtain ⟨hx, hb, hml, hown, hts⟩ := S
  have hl : lv_has ls 2 [(0, .ref h0), (1, .int p1)] := hl

  obtain ⟨⟨hsz, hV, hK⟩, hT⟩ := hB
  subst hsz
  have hE : ∀ q, jE s.heap.size q → jE s.heap.size q := fun _ h => h
  have hfree : ∀ q, jE s.heap.size q → jE s.heap.size q := fun _ h => h
  have hA : ∀ q : Nat, s.heap.size ≤ q → jE s.heap.size q := fun _ h => h
  obtain ⟨H, hH⟩ : ∃ z, z = s.heap := ⟨_, rfl⟩
  obtain ⟨locs, hlocs⟩ : ∃ z : List Loc, z = [] := ⟨_, rfl⟩
  have hS9 : va_S (jE s.heap.size) s.heap H locs := by rw [hH, hlocs]; exact va_S.rf
  have hS := hS9
  rw [← hH] at hV
  have hP : va_P D vwCl (lW yy B F G) H := fun k q hk => hV (2 + k) q (ap_get (ap_getl hk))
  suffices hgo : W p l e rmX11_water s m args below meth c H locs 0 0 Q (F0 m 0 ls []) by rw [hH, hlocs] at hgo; exact hgo
  unfold gX11_water at hres
  unfold okX11_water at hok
  refine lv_aload_n hx hb (dd_of dX11_water_0 0 rfl) rfl (lv_at hl 0 rfl) ?_
  refine lv_iload_n hx hb (dd_of dX11_water_0 1 rfl) rfl (lv_at hl 1 rfl) ?_
  have hk9 := hok.1
  replace hok := hok.2
  refine xc_q (B := B) (off := 100) (g := (gX11_needBasin F G p1)) (As := [.int p1]) (rest := []) (w := (pV yy h0 an B B2 F G F2 G2 M)) (D := D) (yy := yy) ⟨hx, hb, hml, hown, hts⟩ (qX11_needBasin l hl9 D yy h0 an B B2 F G F2 G2 M H.size p1 hk9) (cwV 1 hts (jgV gw606 gw607 gw608 gw2 gw609) rfl rfl rfl (by decide +kernel) ⟨Nat.le_of_ble_eq_true rfl, Nat.le_of_ble_eq_true rfl⟩) hV hK hT hS hA hS9 (va_recv hK hV (ci := 11) (q0 := 0) rfl rfl) rfl hl.1 rfl (Nat.le_of_ble_eq_true rfl) (dd_of dX11_water_0 2 rfl) ⟨Nat.le_of_ble_eq_true rfl, Nat.le_of_ble_eq_true rfl⟩ (fun E9 ce9 qx9 H locs cx ex hS9 z1 z2 z3 => ?_) (fun k1 H locs cx hkp hS9 => ?_)
  · rw [cx] at hres
    replace hres := omN hres
    subst hQ
    exact xout (px := True) (B := (fun E => RES.1 ≠ 0 ∧ E = xN RES.1)) htab hlk hS9 z1 z2 z3 trivial (by rw [← hres]; exact ⟨Nat.one_ne_zero, ex⟩) (Nat.le_of_ble_eq_true rfl) (Nat.le_of_ble_eq_true rfl) hfree
  · rw [cx] at hres
    replace hres := omS hres
    rw [cx] at hok
    replace hok := opS hok
    have hS := hS9.mono hE
    have hV := hkp _ hV
    have hP := hkp _ hP
    have h2 := hok
    obtain ⟨qx9, hqx9⟩ := lWg_basin (yy := yy) (B := B) (F := F) (G := G) h2
    refine va_get (D := D) (cl := vwCl) (tys := jT yy) (ci := 0) (v := .long (G 14 k1)) (C := RX0) (T := TX0) (N := 7) hx hb hts (fun w h => List.mem_cons_of_mem _ (inlX0 w h)) hown hK hP qx9 hqx9 rfl 2 (by decide) (jw hts gw1004) (fun _ h9 => h9) rfl (dd_of dX11_water_0 3 rfl) ?_
    subst hQ
    refine vx_ret (W.widen (k := 9) (n := 64) (Nat.le_of_ble_eq_true rfl) (Nat.le_of_ble_eq_true rfl) ?_)
    exact W.lret (v := (G 14 k1)) hx hb hr (fun t ht hW => ⟨⟨(G 14 k1), (), rfl, hres.symm, trivial⟩, hS9.F ht⟩) (fun z hz => hfree _ (hS9.2.2 z hz)) (dd_of dX11_water_0 4 rfl) hlk
set_option maxHeartbeats 4000000 in
set_option maxRecDepth 100000 in
theorem qX11_harm (l : Launch) (hl9 : l.stackTraces = false) (D : va_G) (yy : Nat → ClassId) (h0 an : Nat) (B B2 : Nat → Nat) (F : jF) (G : jG) (F2 : jF) (G2 : jG) (M : jF) (sz : Nat) (p1 : Int32) (hok : okX11_harm F G M p1) : vx_Met l yX11_harm (Cond.code yX11_harm cX11_harm 2 (some .long) :: wsL_law) rmX11_harm (va_Pc [.ref h0, .int p1] (jV D yy (pV yy h0 an B B2 F G F2 G2 M) sz)) (va_Ql (fun r (_ : Unit) => gX11_harm F G M p1 = (0, r)) (fun _ _ => True) (jE sz)) (vx_X (fun _ : Unit => True) (fun E _ _ => (gX11_harm F G M p1).1 ≠ 0 ∧ E = xN (gX11_harm F G M p1).1) (jE sz)) 9 64 (jE sz) := by
  generalize hres : gX11_harm F G M p1 = RES
  refine jMX (vs := [.ref h0, .int p1]) (own := RX11) (by decide +kernel) rfl (Nat.le_of_ble_eq_true rfl) ?_
  intro p e s m args below meth c ls Q hQ hargs S hr hlk htab hB hl
  obtain ⟨hx, hb, hml, hown, hts⟩ := S
  have hl : lv_has ls 2 [(0, .ref h0), (1, .int p1)] := hl

  obtain ⟨⟨hsz, hV, hK⟩, hT⟩ := hB
  subst hsz
  have hE : ∀ q, jE s.heap.size q → jE s.heap.size q := fun _ h => h
  have hfree : ∀ q, jE s.heap.size q → jE s.heap.size q := fun _ h => h
  have hA : ∀ q : Nat, s.heap.size ≤ q → jE s.heap.size q := fun _ h => h
  obtain ⟨H, hH⟩ : ∃ z, z = s.heap := ⟨_, rfl⟩
  obtain ⟨locs, hlocs⟩ : ∃ z : List Loc, z = [] := ⟨_, rfl⟩
  have hS9 : va_S (jE s.heap.size) s.heap H locs := by rw [hH, hlocs]; exact va_S.rf
  have hS := hS9
  rw [← hH] at hV
  have hP : va_P D vwCl (lW yy B F G) H := fun k q hk => hV (2 + k) q (ap_get (ap_getl hk))
  suffices hgo : W p l e rmX11_harm s m args below meth c H locs 0 0 Q (F0 m 0 ls []) by rw [hH, hlocs] at hgo; exact hgo
  unfold gX11_harm at hres
  unfold okX11_harm at hok
  refine lv_aload_n hx hb (dd_of dX11_harm_0 0 rfl) rfl (lv_at hl 0 rfl) ?_
  refine lv_iload_n hx hb (dd_of dX11_harm_0 1 rfl) rfl (lv_at hl 1 rfl) ?_
  have hk9 := hok.1
  replace hok := hok.2
  refine xc_q (B := B) (off := 100) (g := (gX11_needBasin F G p1)) (As := [.int p1]) (rest := []) (w := (pV yy h0 an B B2 F G F2 G2 M)) (D := D) (yy := yy) ⟨hx, hb, hml, hown, hts⟩ (qX11_needBasin l hl9 D yy h0 an B B2 F G F2 G2 M H.size p1 hk9) (cwV 1 hts (jgV gw606 gw607 gw608 gw2 gw609) rfl rfl rfl (by decide +kernel) ⟨Nat.le_of_ble_eq_true rfl, Nat.le_of_ble_eq_true rfl⟩) hV hK hT hS hA hS9 (va_recv hK hV (ci := 11) (q0 := 0) rfl rfl) rfl hl.1 rfl (Nat.le_of_ble_eq_true rfl) (dd_of dX11_harm_0 2 rfl) ⟨Nat.le_of_ble_eq_true rfl, Nat.le_of_ble_eq_true rfl⟩ (fun E9 ce9 qx9 H locs cx ex hS9 z1 z2 z3 => ?_) (fun k1 H locs cx hkp hS9 => ?_)
  · rw [cx] at hres
    replace hres := omN hres
    subst hQ
    exact xout (px := True) (B := (fun E => RES.1 ≠ 0 ∧ E = xN RES.1)) htab hlk hS9 z1 z2 z3 trivial (by rw [← hres]; exact ⟨Nat.one_ne_zero, ex⟩) (Nat.le_of_ble_eq_true rfl) (Nat.le_of_ble_eq_true rfl) hfree
  · rw [cx] at hres
    replace hres := omS hres
    rw [cx] at hok
    replace hok := opS hok
    have hS := hS9.mono hE
    have hV := hkp _ hV
    have hP := hkp _ hP
    have h2 := hok
    obtain ⟨qx9, hqx9⟩ := lWg_basin (yy := yy) (B := B) (F := F) (G := G) h2
    refine va_get (D := D) (cl := vwCl) (tys := jT yy) (ci := 0) (v := .long (G 15 k1)) (C := RX0) (T := TX0) (N := 7) hx hb hts (fun w h => List.mem_cons_of_mem _ (inlX0 w h)) hown hK hP qx9 hqx9 rfl 6 (by decide) (jw hts gw1016) (fun _ h9 => h9) rfl (dd_of dX11_harm_0 3 rfl) ?_
    subst hQ
    refine vx_ret (W.widen (k := 9) (n := 64) (Nat.le_of_ble_eq_true rfl) (Nat.le_of_ble_eq_true rfl) ?_)
    exact W.lret (v := (G 15 k1)) hx hb hr (fun t ht hW => ⟨⟨(G 15 k1), (), rfl, hres.symm, trivial⟩, hS9.F ht⟩) (fun z hz => hfree _ (hS9.2.2 z hz)) (dd_of dX11_harm_0 4 rfl) hlk
set_option maxHeartbeats 4000000 in
set_option maxRecDepth 100000 in
theorem qX11_ledger (l : Launch) (hl9 : l.stackTraces = false) (D : va_G) (yy : Nat → ClassId) (h0 an : Nat) (B B2 : Nat → Nat) (F : jF) (G : jG) (F2 : jF) (G2 : jG) (M : jF) (sz : Nat) (p1 : Int32) (hok : okX11_ledger F G M p1) : vx_Met l yX11_ledger (Cond.code yX11_ledger cX11_ledger 2 (some .long) :: wsL_law) rmX11_ledger (va_Pc [.ref h0, .int p1] (jV D yy (pV yy h0 an B B2 F G F2 G2 M) sz)) (va_Ql (fun r (_ : Unit) => gX11_ledger F G M p1 = (0, r)) (fun _ _ => True) (jE sz)) (vx_X (fun _ : Unit => True) (fun E _ _ => (gX11_ledger F G M p1).1 ≠ 0 ∧ E = xN (gX11_ledger F G M p1).1) (jE sz)) 9 64 (jE sz) := by
  generalize hres : gX11_ledger F G M p1 = RES
  refine jMX (vs := [.ref h0, .int p1]) (own := RX11) (by decide +kernel) rfl (Nat.le_of_ble_eq_true rfl) ?_
  intro p e s m args below meth c ls Q hQ hargs S hr hlk htab hB hl
  obtain ⟨hx, hb, hml, hown, hts⟩ := S
  have hl : lv_has ls 2 [(0, .ref h0), (1, .int p1)] := hl

  obtain ⟨⟨hsz, hV, hK⟩, hT⟩ := hB
  subst hsz
  have hE : ∀ q, jE s.heap.size q → jE s.heap.size q := fun _ h => h
  have hfree : ∀ q, jE s.heap.size q → jE s.heap.size q := fun _ h => h
  have hA : ∀ q : Nat, s.heap.size ≤ q → jE s.heap.size q := fun _ h => h
  obtain ⟨H, hH⟩ : ∃ z, z = s.heap := ⟨_, rfl⟩
  obtain ⟨locs, hlocs⟩ : ∃ z : List Loc, z = [] := ⟨_, rfl⟩
  have hS9 : va_S (jE s.heap.size) s.heap H locs := by rw [hH, hlocs]; exact va_S.rf
  have hS := hS9
  rw [← hH] at hV
  have hP : va_P D vwCl (lW yy B F G) H := fun k q hk => hV (2 + k) q (ap_get (ap_getl hk))
  suffices hgo : W p l e rmX11_ledger s m args below meth c H locs 0 0 Q (F0 m 0 ls []) by rw [hH, hlocs] at hgo; exact hgo
  unfold gX11_ledger at hres
  unfold okX11_ledger at hok
  refine lv_aload_n hx hb (dd_of dX11_ledger_0 0 rfl) rfl (lv_at hl 0 rfl) ?_
  refine lv_iload_n hx hb (dd_of dX11_ledger_0 1 rfl) rfl (lv_at hl 1 rfl) ?_
  refine lv_iconst (v := 0) hx hb (dd_of dX11_ledger_0 2 rfl) (by decide) ?_
  refine lv_iconst (v := 3) hx hb (dd_of dX11_ledger_0 3 rfl) (by decide) ?_
  refine xc_v (g := (gX11_needRange p1 0 3)) (As := [.int p1, .int 0, .int 3]) (rest := []) (w := ([] : va_W)) (D := D) (yy := yy) ⟨hx, hb, hml, hown, hts⟩ (qX11_needRange l hl9 D yy h0 H.size p1 0 3) (cwV 3 hts (jgV gw183 gw184 gw185 gw2 gw186) rfl rfl rfl (by decide +kernel) ⟨Nat.le_of_ble_eq_true rfl, Nat.le_of_ble_eq_true rfl⟩) (fun k q h => by simp at h) hK hT hS hA hS9 (va_recv hK hV (ci := 11) (q0 := 0) rfl rfl) rfl hl.1 rfl (Nat.le_of_ble_eq_true rfl) (dd_of dX11_ledger_0 4 rfl) ⟨Nat.le_of_ble_eq_true rfl, Nat.le_of_ble_eq_true rfl⟩ (fun E9 ce9 qx9 H locs cx ex hS9 z1 z2 z3 => ?_) (fun H locs cx hkp hS9 => ?_)
  · replace hres := ifN cx (bvE rfl hres)
    subst hQ
    exact xout (px := True) (B := (fun E => RES.1 ≠ 0 ∧ E = xN RES.1)) htab hlk hS9 z1 z2 z3 trivial (by rw [← hres]; exact ⟨cx, ex⟩) (Nat.le_of_ble_eq_true rfl) (Nat.le_of_ble_eq_true rfl) hfree
  · replace hres := ifE cx (bvE rfl hres)
    replace hok := bvO rfl hok
    replace hok := hok cx
    have hS := hS9.mono hE
    have hV := hkp _ hV
    have hP := hkp _ hP
    refine lv_aload_n hx hb (dd_of dX11_ledger_0 5 rfl) rfl (lv_at hl 0 rfl) ?_
    refine va_get (D := D) (cl := vwCl) (tys := jT yy) (ci := 11) (v := .ref (B 0)) (C := RX11) (T := TX11) (N := 5) hx hb hts (fun w h => List.mem_cons_of_mem _ (inlX11 w h)) hown hK hV 0 rfl rfl 0 (by decide) (jw hts gw16) (fun _ h9 => h9) rfl (dd_of dX11_ledger_0 6 rfl) ?_
    refine va_get (D := D) (cl := vwCl) (tys := jT yy) (ci := 5) (v := .ref (B 1)) (C := RX5) (T := TX5) (N := 10) hx hb hts (fun w h => List.mem_cons_of_mem _ (inlX5 w h)) hown hK hP 0 rfl rfl 0 (by decide) (jw hts gw181) (fun _ h9 => h9) rfl (dd_of dX11_ledger_0 7 rfl) ?_
    refine lv_iload_n hx hb (dd_of dX11_ledger_0 8 rfl) rfl (lv_at hl 1 rfl) ?_
    have h2 := hok
    refine jc_l (As := [.int p1]) (rest := []) (w := (lW yy B F G)) (D := D) (yy := yy) ⟨hx, hb, hml, hown, hts⟩ (qX10_came l D yy B F G  p1 h2) (cwV 1 hts (jgV gw1028 gw1029 gw1030 gw26 gw1031) rfl rfl rfl (by decide +kernel) ⟨Nat.le_of_ble_eq_true rfl, Nat.le_of_ble_eq_true rfl⟩) hP hK (va_recv hK hP (ci := 10) (q0 := 1) rfl rfl) rfl hl.1 rfl (Nat.le_of_ble_eq_true rfl) (dd_of dX11_ledger_0 9 rfl) ⟨Nat.le_of_ble_eq_true rfl, Nat.le_of_ble_eq_true rfl⟩ (fun x3 ex3 => ?_)
    replace hres := bvE ex3 hres
    subst hQ
    refine vx_ret (W.widen (k := 9) (n := 64) (Nat.le_of_ble_eq_true rfl) (Nat.le_of_ble_eq_true rfl) ?_)
    exact W.lret (v := x3) hx hb hr (fun t ht hW => ⟨⟨x3, (), rfl, hres.symm, trivial⟩, hS9.F ht⟩) (fun z hz => hfree _ (hS9.2.2 z hz)) (dd_of dX11_ledger_0 10 rfl) hlk
set_option maxHeartbeats 4000000 in
set_option maxRecDepth 100000 in
theorem qX11_isOpen (l : Launch) (hl9 : l.stackTraces = false) (D : va_G) (yy : Nat → ClassId) (h0 an : Nat) (B B2 : Nat → Nat) (F : jF) (G : jG) (F2 : jF) (G2 : jG) (M : jF) (sz : Nat) (p1 : Int32) (hok : okX11_isOpen F G M p1) : vx_Met l yX11_isOpen (Cond.code yX11_isOpen cX11_isOpen 2 (some .boolean) :: wsL_law) rmX11_isOpen (va_Pc [.ref h0, .int p1] (jV D yy (pV yy h0 an B B2 F G F2 G2 M) sz)) (va_Qi (fun r (_ : Unit) => gX11_isOpen F G M p1 = (0, r)) (fun _ _ => True) (jE sz)) (vx_X (fun _ : Unit => True) (fun E _ _ => (gX11_isOpen F G M p1).1 ≠ 0 ∧ E = xN (gX11_isOpen F G M p1).1) (jE sz)) 9 64 (jE sz) := by
  generalize hres : gX11_isOpen F G M p1 = RES
  refine jMX (vs := [.ref h0, .int p1]) (own := RX11) (by decide +kernel) rfl (Nat.le_of_ble_eq_true rfl) ?_
  intro p e s m args below meth c ls Q hQ hargs S hr hlk htab hB hl
  obtain ⟨hx, hb, hml, hown, hts⟩ := S
  have hl : lv_has ls 2 [(0, .ref h0), (1, .int p1)] := hl

  obtain ⟨⟨hsz, hV, hK⟩, hT⟩ := hB
  subst hsz
  have hE : ∀ q, jE s.heap.size q → jE s.heap.size q := fun _ h => h
  have hfree : ∀ q, jE s.heap.size q → jE s.heap.size q := fun _ h => h
  have hA : ∀ q : Nat, s.heap.size ≤ q → jE s.heap.size q := fun _ h => h
  obtain ⟨H, hH⟩ : ∃ z, z = s.heap := ⟨_, rfl⟩
  obtain ⟨locs, hlocs⟩ : ∃ z : List Loc, z = [] := ⟨_, rfl⟩
  have hS9 : va_S (jE s.heap.size) s.heap H locs := by rw [hH, hlocs]; exact va_S.rf
  have hS := hS9
  rw [← hH] at hV
  have hP : va_P D vwCl (lW yy B F G) H := fun k q hk => hV (2 + k) q (ap_get (ap_getl hk))
  suffices hgo : W p l e rmX11_isOpen s m args below meth c H locs 0 0 Q (F0 m 0 ls []) by rw [hH, hlocs] at hgo; exact hgo
  unfold gX11_isOpen at hres
  unfold okX11_isOpen at hok
  refine lv_aload_n hx hb (dd_of dX11_isOpen_0 0 rfl) rfl (lv_at hl 0 rfl) ?_
  refine lv_iload_n hx hb (dd_of dX11_isOpen_0 1 rfl) rfl (lv_at hl 1 rfl) ?_
  have hk9 := hok.1
  replace hok := hok.2
  refine xc_q (B := B) (off := 200) (g := (gX11_needGate F G p1)) (As := [.int p1]) (rest := []) (w := (pV yy h0 an B B2 F G F2 G2 M)) (D := D) (yy := yy) ⟨hx, hb, hml, hown, hts⟩ (qX11_needGate l hl9 D yy h0 an B B2 F G F2 G2 M H.size p1 hk9) (cwV 1 hts (jgV gw768 gw769 gw770 gw2 gw771) rfl rfl rfl (by decide +kernel) ⟨Nat.le_of_ble_eq_true rfl, Nat.le_of_ble_eq_true rfl⟩) hV hK hT hS hA hS9 (va_recv hK hV (ci := 11) (q0 := 0) rfl rfl) rfl hl.1 rfl (Nat.le_of_ble_eq_true rfl) (dd_of dX11_isOpen_0 2 rfl) ⟨Nat.le_of_ble_eq_true rfl, Nat.le_of_ble_eq_true rfl⟩ (fun E9 ce9 qx9 H locs cx ex hS9 z1 z2 z3 => ?_) (fun k1 H locs cx hkp hS9 => ?_)
  · rw [cx] at hres
    replace hres := omN hres
    subst hQ
    exact xout (px := True) (B := (fun E => RES.1 ≠ 0 ∧ E = xN RES.1)) htab hlk hS9 z1 z2 z3 trivial (by rw [← hres]; exact ⟨Nat.one_ne_zero, ex⟩) (Nat.le_of_ble_eq_true rfl) (Nat.le_of_ble_eq_true rfl) hfree
  · rw [cx] at hres
    replace hres := omS hres
    rw [cx] at hok
    replace hok := opS hok
    have hS := hS9.mono hE
    have hV := hkp _ hV
    have hP := hkp _ hP
    have h2 := hok.1
    replace hok := hok.2
    obtain ⟨qx9, hqx9⟩ := lWg_gate (yy := yy) (B := B) (F := F) (G := G) h2
    refine va_get (D := D) (cl := vwCl) (tys := jT yy) (ci := 4) (v := .int (F 22 k1)) (C := RX4) (T := TX4) (N := 5) hx hb hts (fun w h => List.mem_cons_of_mem _ (inlX4 w h)) hown hK hP qx9 hqx9 rfl 4 (by decide) (jw hts gw1043) (fun _ h9 => h9) rfl (dd_of dX11_isOpen_0 3 rfl) ?_
    have hz3 := hok
    subst hQ
    refine vx_ret (W.widen (k := 9) (n := 64) (Nat.le_of_ble_eq_true rfl) (Nat.le_of_ble_eq_true rfl) ?_)
    exact W.zret (ty := .boolean) (v := (F 22 k1)) hx hb hr (jb_nz (hz3)) (fun t ht hW => ⟨⟨(F 22 k1), (), rfl, hres.symm, trivial⟩, hS9.F ht⟩) (fun z hz => hfree _ (hS9.2.2 z hz)) (dd_of dX11_isOpen_0 4 rfl) hlk
set_option maxHeartbeats 4000000 in
set_option maxRecDepth 100000 in
theorem qX11_pump (l : Launch) (hl9 : l.stackTraces = false) (D : va_G) (yy : Nat → ClassId) (h0 an : Nat) (B B2 : Nat → Nat) (F : jF) (G : jG) (F2 : jF) (G2 : jG) (M : jF) (sz : Nat) (p1 : Int32) (p2 : Int32) (hok : okX11_pump F G M p1 p2) : vx_Met l yX11_pump (Cond.code yX11_pump cX11_pump 4 (some .int) :: wsL_law) rmX11_pump (va_Pc [.ref h0, .int p1, .int p2] (jV D yy (pV yy h0 an B B2 F G F2 G2 M) sz)) (va_Qi (fun r (_ : Unit) => gX11_pump F G M p1 p2 = (0, r)) (fun _ _ => True) (jE sz)) (vx_X (fun _ : Unit => True) (fun E _ _ => (gX11_pump F G M p1 p2).1 ≠ 0 ∧ E = xN (gX11_pump F G M p1 p2).1) (jE sz)) 9 64 (jE sz) := by
  generalize hres : gX11_pump F G M p1 p2 = RES
  refine jMX (vs := [.ref h0, .int p1, .int p2]) (own := RX11) (by decide +kernel) rfl (Nat.le_of_ble_eq_true rfl) ?_
  intro p e s m args below meth c ls Q hQ hargs S hr hlk htab hB hl
  obtain ⟨hx, hb, hml, hown, hts⟩ := S
  have hl : lv_has ls 4 [(0, .ref h0), (1, .int p1), (2, .int p2)] := hl

  obtain ⟨⟨hsz, hV, hK⟩, hT⟩ := hB
  subst hsz
  have hE : ∀ q, jE s.heap.size q → jE s.heap.size q := fun _ h => h
  have hfree : ∀ q, jE s.heap.size q → jE s.heap.size q := fun _ h => h
  have hA : ∀ q : Nat, s.heap.size ≤ q → jE s.heap.size q := fun _ h => h
  obtain ⟨H, hH⟩ : ∃ z, z = s.heap := ⟨_, rfl⟩
  obtain ⟨locs, hlocs⟩ : ∃ z : List Loc, z = [] := ⟨_, rfl⟩
  have hS9 : va_S (jE s.heap.size) s.heap H locs := by rw [hH, hlocs]; exact va_S.rf
  have hS := hS9
  rw [← hH] at hV
  have hP : va_P D vwCl (lW yy B F G) H := fun k q hk => hV (2 + k) q (ap_get (ap_getl hk))
  suffices hgo : W p l e rmX11_pump s m args below meth c H locs 0 0 Q (F0 m 0 ls []) by rw [hH, hlocs] at hgo; exact hgo
  unfold gX11_pump at hres
  unfold okX11_pump at hok
  refine lv_aload_n hx hb (dd_of dX11_pump_0 0 rfl) rfl (lv_at hl 0 rfl) ?_
  refine lv_iload_n hx hb (dd_of dX11_pump_0 1 rfl) rfl (lv_at hl 1 rfl) ?_
  have hk9 := hok.1
  replace hok := hok.2
  refine xc_q (B := B) (off := 300) (g := (gX11_needPump F G p1)) (As := [.int p1]) (rest := []) (w := (pV yy h0 an B B2 F G F2 G2 M)) (D := D) (yy := yy) ⟨hx, hb, hml, hown, hts⟩ (qX11_needPump l hl9 D yy h0 an B B2 F G F2 G2 M H.size p1 hk9) (cwV 1 hts (jgV gw799 gw800 gw801 gw2 gw802) rfl rfl rfl (by decide +kernel) ⟨Nat.le_of_ble_eq_true rfl, Nat.le_of_ble_eq_true rfl⟩) hV hK hT hS hA hS9 (va_recv hK hV (ci := 11) (q0 := 0) rfl rfl) rfl hl.1 rfl (Nat.le_of_ble_eq_true rfl) (dd_of dX11_pump_0 2 rfl) ⟨Nat.le_of_ble_eq_true rfl, Nat.le_of_ble_eq_true rfl⟩ (fun E9 ce9 qx9 H locs cx ex hS9 z1 z2 z3 => ?_) (fun k1 H locs cx hkp hS9 => ?_)
  · rw [cx] at hres
    replace hres := omN hres
    subst hQ
    exact xout (px := True) (B := (fun E => RES.1 ≠ 0 ∧ E = xN RES.1)) htab hlk hS9 z1 z2 z3 trivial (by rw [← hres]; exact ⟨Nat.one_ne_zero, ex⟩) (Nat.le_of_ble_eq_true rfl) (Nat.le_of_ble_eq_true rfl) hfree
  · rw [cx] at hres
    replace hres := omS hres
    rw [cx] at hok
    replace hok := opS hok
    have hS := hS9.mono hE
    have hV := hkp _ hV
    have hP := hkp _ hP
    refine lv_astore_n (lv' := [(3, .ref (B (300 + k1))), (0, .ref h0), (1, .int p1), (2, .int p2)]) hx hb (dd_of dX11_pump_0 3 rfl) rfl hl (by decide) rfl (fun ls hl => ?_)
    refine lv_aload_n hx hb (dd_of dX11_pump_0 4 rfl) rfl (lv_at hl 1 rfl) ?_
    refine lv_iload_n hx hb (dd_of dX11_pump_0 5 rfl) rfl (lv_at hl 3 rfl) ?_
    refine lv_iconst (v := 0) hx hb (dd_of dX11_pump_0 6 rfl) (by decide) ?_
    refine lv_iconst (v := 2) hx hb (dd_of dX11_pump_0 7 rfl) (by decide) ?_
    refine xc_v (g := (gX11_needRange p2 0 2)) (As := [.int p2, .int 0, .int 2]) (rest := []) (w := ([] : va_W)) (D := D) (yy := yy) ⟨hx, hb, hml, hown, hts⟩ (qX11_needRange l hl9 D yy h0 H.size p2 0 2) (cwV 3 hts (jgV gw183 gw184 gw185 gw2 gw186) rfl rfl rfl (by decide +kernel) ⟨Nat.le_of_ble_eq_true rfl, Nat.le_of_ble_eq_true rfl⟩) (fun k q h => by simp at h) hK hT hS hA hS9 (va_recv hK hV (ci := 11) (q0 := 0) rfl rfl) rfl hl.1 rfl (Nat.le_of_ble_eq_true rfl) (dd_of dX11_pump_0 8 rfl) ⟨Nat.le_of_ble_eq_true rfl, Nat.le_of_ble_eq_true rfl⟩ (fun E9 ce9 qx9 H locs cx ex hS9 z1 z2 z3 => ?_) (fun H locs cx hkp hS9 => ?_)
    · replace hres := ifN cx (bvE rfl hres)
      subst hQ
      exact xout (px := True) (B := (fun E => RES.1 ≠ 0 ∧ E = xN RES.1)) htab hlk hS9 z1 z2 z3 trivial (by rw [← hres]; exact ⟨cx, ex⟩) (Nat.le_of_ble_eq_true rfl) (Nat.le_of_ble_eq_true rfl) hfree
    · replace hres := ifE cx (bvE rfl hres)
      replace hok := bvO rfl hok
      replace hok := hok cx
      have hS := hS9.mono hE
      have hV := hkp _ hV
      have hP := hkp _ hP
      refine lv_iload_n hx hb (dd_of dX11_pump_0 9 rfl) rfl (lv_at hl 3 rfl) ?_
      refine lv_if_ne (tgt := 30) hx hb (dd_of dX11_pump_0 10 rfl) (by decide) (fun c3 => ?_) (fun c3 => ?_)
      · replace hres := ifN c3 hres
        replace hok := hok.2 c3
        refine lv_iload_n hx hb (dd_of dX11_pump_0 18 rfl) rfl (lv_at hl 3 rfl) ?_
        refine lv_iconst (v := 1) hx hb (dd_of dX11_pump_0 19 rfl) (by decide) ?_
        obtain ⟨z12, q11⟩ : ∃ z : Int32, (if p2 = 1 then (F 30 k1) else (F 31 k1)) = z := ⟨_, rfl⟩
        have o14 := hok
        refine jn_i (ls := ls) (v := z12) 46 [] (fun v7 ev7 => ?_) (fun K13 => ?_)
        · replace hres := bvE (ev7.trans q11.symm) hres
          subst hQ
          refine vx_ret (W.widen (k := 9) (n := 64) (Nat.le_of_ble_eq_true rfl) (Nat.le_of_ble_eq_true rfl) ?_)
          exact W.iret (v := v7) hx hb hr (fun t ht hW => ⟨⟨v7, (), rfl, hres.symm, trivial⟩, hS9.F ht⟩) (fun z hz => hfree _ (hS9.2.2 z hz)) (dd_of dX11_pump_0 26 rfl) hlk
        · skip
          refine lv_icmp_ne (tgt := 42) hx hb (dd_of dX11_pump_0 20 rfl) (by decide) (fun c4 => ?_) (fun c4 => ?_)
          · replace q11 := ifN c4 q11
            replace o14 := o14.2 c4
            refine lv_aload_n hx hb (dd_of dX11_pump_0 24 rfl) rfl (lv_at hl 0 rfl) ?_
            have h5 := o14
            obtain ⟨qx9, hqx9⟩ := lWg_pump (yy := yy) (B := B) (F := F) (G := G) h5
            refine va_get (D := D) (cl := vwCl) (tys := jT yy) (ci := 7) (v := .int (F 31 k1)) (C := RX7) (T := TX7) (N := 8) hx hb hts (fun w h => List.mem_cons_of_mem _ (inlX7 w h)) hown hK hP qx9 hqx9 rfl 7 (by decide) (jw hts gw1057) (fun _ h9 => h9) rfl (dd_of dX11_pump_0 25 rfl) ?_
            exact K13 _ q11
          · replace q11 := ifE c4 q11
            replace o14 := o14.1 c4
            refine lv_aload_n hx hb (dd_of dX11_pump_0 21 rfl) rfl (lv_at hl 0 rfl) ?_
            have h6 := o14
            obtain ⟨qx9, hqx9⟩ := lWg_pump (yy := yy) (B := B) (F := F) (G := G) h6
            refine va_get (D := D) (cl := vwCl) (tys := jT yy) (ci := 7) (v := .int (F 30 k1)) (C := RX7) (T := TX7) (N := 8) hx hb hts (fun w h => List.mem_cons_of_mem _ (inlX7 w h)) hown hK hP qx9 hqx9 rfl 6 (by decide) (jw hts gw1056) (fun _ h9 => h9) rfl (dd_of dX11_pump_0 22 rfl) ?_
            refine lv_goto (tgt := 46) hx hb (dd_of dX11_pump_0 23 rfl) (by decide) ?_
            exact K13 _ q11
      · replace hres := ifE c3 hres
        replace hok := hok.1 c3
        refine lv_aload_n hx hb (dd_of dX11_pump_0 11 rfl) rfl (lv_at hl 0 rfl) ?_
        have h8 := hok
        obtain ⟨qx9, hqx9⟩ := lWg_pump (yy := yy) (B := B) (F := F) (G := G) h8
        refine va_get (D := D) (cl := vwCl) (tys := jT yy) (ci := 7) (v := .int (F 29 k1)) (C := RX7) (T := TX7) (N := 8) hx hb hts (fun w h => List.mem_cons_of_mem _ (inlX7 w h)) hown hK hP qx9 hqx9 rfl 5 (by decide) (jw hts gw1055) (fun _ h9 => h9) rfl (dd_of dX11_pump_0 12 rfl) ?_
        obtain ⟨z16, q15⟩ : ∃ z : Int32, (if (F 29 k1) = 0 then 0 else 1) = z := ⟨_, rfl⟩
        refine jn_i (ls := ls) (v := z16) 29 [] (fun v10 ev10 => ?_) (fun K17 => ?_)
        · replace hres := bvE (ev10.trans q15.symm) hres
          subst hQ
          refine vx_ret (W.widen (k := 9) (n := 64) (Nat.le_of_ble_eq_true rfl) (Nat.le_of_ble_eq_true rfl) ?_)
          exact W.iret (v := v10) hx hb hr (fun t ht hW => ⟨⟨v10, (), rfl, hres.symm, trivial⟩, hS9.F ht⟩) (fun z hz => hfree _ (hS9.2.2 z hz)) (dd_of dX11_pump_0 17 rfl) hlk
        · skip
          refine lv_if_eq (tgt := 28) hx hb (dd_of dX11_pump_0 13 rfl) (by decide) (fun c9 => ?_) (fun c9 => ?_)
          · replace q15 := ifE c9 q15
            refine lv_iconst (v := 0) hx hb (dd_of dX11_pump_0 16 rfl) (by decide) ?_
            exact K17 _ q15
          · replace q15 := ifN c9 q15
            refine lv_iconst (v := 1) hx hb (dd_of dX11_pump_0 14 rfl) (by decide) ?_
            refine lv_goto (tgt := 29) hx hb (dd_of dX11_pump_0 15 rfl) (by decide) ?_
            exact K17 _ q15
set_option maxHeartbeats 4000000 in
set_option maxRecDepth 100000 in
theorem qX11_dyke (l : Launch) (hl9 : l.stackTraces = false) (D : va_G) (yy : Nat → ClassId) (h0 an : Nat) (B B2 : Nat → Nat) (F : jF) (G : jG) (F2 : jF) (G2 : jG) (M : jF) (sz : Nat) (p1 : Int32) (p2 : Int32) (hok : okX11_dyke F G M p1 p2) : vx_Met l yX11_dyke (Cond.code yX11_dyke cX11_dyke 4 (some .int) :: wsL_law) rmX11_dyke (va_Pc [.ref h0, .int p1, .int p2] (jV D yy (pV yy h0 an B B2 F G F2 G2 M) sz)) (va_Qi (fun r (_ : Unit) => gX11_dyke F G M p1 p2 = (0, r)) (fun _ _ => True) (jE sz)) (vx_X (fun _ : Unit => True) (fun E _ _ => (gX11_dyke F G M p1 p2).1 ≠ 0 ∧ E = xN (gX11_dyke F G M p1 p2).1) (jE sz)) 9 64 (jE sz) := by
  generalize hres : gX11_dyke F G M p1 p2 = RES
  refine jMX (vs := [.ref h0, .int p1, .int p2]) (own := RX11) (by decide +kernel) rfl (Nat.le_of_ble_eq_true rfl) ?_
  intro p e s m args below meth c ls Q hQ hargs S hr hlk htab hB hl
  obtain ⟨hx, hb, hml, hown, hts⟩ := S
  have hl : lv_has ls 4 [(0, .ref h0), (1, .int p1), (2, .int p2)] := hl

  obtain ⟨⟨hsz, hV, hK⟩, hT⟩ := hB
  subst hsz
  have hE : ∀ q, jE s.heap.size q → jE s.heap.size q := fun _ h => h
  have hfree : ∀ q, jE s.heap.size q → jE s.heap.size q := fun _ h => h
  have hA : ∀ q : Nat, s.heap.size ≤ q → jE s.heap.size q := fun _ h => h
  obtain ⟨H, hH⟩ : ∃ z, z = s.heap := ⟨_, rfl⟩
  obtain ⟨locs, hlocs⟩ : ∃ z : List Loc, z = [] := ⟨_, rfl⟩
  have hS9 : va_S (jE s.heap.size) s.heap H locs := by rw [hH, hlocs]; exact va_S.rf
  have hS := hS9
  rw [← hH] at hV
  have hP : va_P D vwCl (lW yy B F G) H := fun k q hk => hV (2 + k) q (ap_get (ap_getl hk))
  suffices hgo : W p l e rmX11_dyke s m args below meth c H locs 0 0 Q (F0 m 0 ls []) by rw [hH, hlocs] at hgo; exact hgo
  unfold gX11_dyke at hres
  unfold okX11_dyke at hok
  refine lv_aload_n hx hb (dd_of dX11_dyke_0 0 rfl) rfl (lv_at hl 0 rfl) ?_
  refine lv_iload_n hx hb (dd_of dX11_dyke_0 1 rfl) rfl (lv_at hl 1 rfl) ?_
  have hk9 := hok.1
  replace hok := hok.2
  refine xc_q (B := B) (off := 400) (g := (gX11_needDyke F G p1)) (As := [.int p1]) (rest := []) (w := (pV yy h0 an B B2 F G F2 G2 M)) (D := D) (yy := yy) ⟨hx, hb, hml, hown, hts⟩ (qX11_needDyke l hl9 D yy h0 an B B2 F G F2 G2 M H.size p1 hk9) (cwV 1 hts (jgV gw839 gw840 gw841 gw2 gw842) rfl rfl rfl (by decide +kernel) ⟨Nat.le_of_ble_eq_true rfl, Nat.le_of_ble_eq_true rfl⟩) hV hK hT hS hA hS9 (va_recv hK hV (ci := 11) (q0 := 0) rfl rfl) rfl hl.1 rfl (Nat.le_of_ble_eq_true rfl) (dd_of dX11_dyke_0 2 rfl) ⟨Nat.le_of_ble_eq_true rfl, Nat.le_of_ble_eq_true rfl⟩ (fun E9 ce9 qx9 H locs cx ex hS9 z1 z2 z3 => ?_) (fun k1 H locs cx hkp hS9 => ?_)
  · rw [cx] at hres
    replace hres := omN hres
    subst hQ
    exact xout (px := True) (B := (fun E => RES.1 ≠ 0 ∧ E = xN RES.1)) htab hlk hS9 z1 z2 z3 trivial (by rw [← hres]; exact ⟨Nat.one_ne_zero, ex⟩) (Nat.le_of_ble_eq_true rfl) (Nat.le_of_ble_eq_true rfl) hfree
  · rw [cx] at hres
    replace hres := omS hres
    rw [cx] at hok
    replace hok := opS hok
    have hS := hS9.mono hE
    have hV := hkp _ hV
    have hP := hkp _ hP
    refine lv_astore_n (lv' := [(3, .ref (B (400 + k1))), (0, .ref h0), (1, .int p1), (2, .int p2)]) hx hb (dd_of dX11_dyke_0 3 rfl) rfl hl (by decide) rfl (fun ls hl => ?_)
    refine lv_aload_n hx hb (dd_of dX11_dyke_0 4 rfl) rfl (lv_at hl 1 rfl) ?_
    refine lv_iload_n hx hb (dd_of dX11_dyke_0 5 rfl) rfl (lv_at hl 3 rfl) ?_
    refine lv_iconst (v := 0) hx hb (dd_of dX11_dyke_0 6 rfl) (by decide) ?_
    refine lv_iconst (v := 2) hx hb (dd_of dX11_dyke_0 7 rfl) (by decide) ?_
    refine xc_v (g := (gX11_needRange p2 0 2)) (As := [.int p2, .int 0, .int 2]) (rest := []) (w := ([] : va_W)) (D := D) (yy := yy) ⟨hx, hb, hml, hown, hts⟩ (qX11_needRange l hl9 D yy h0 H.size p2 0 2) (cwV 3 hts (jgV gw183 gw184 gw185 gw2 gw186) rfl rfl rfl (by decide +kernel) ⟨Nat.le_of_ble_eq_true rfl, Nat.le_of_ble_eq_true rfl⟩) (fun k q h => by simp at h) hK hT hS hA hS9 (va_recv hK hV (ci := 11) (q0 := 0) rfl rfl) rfl hl.1 rfl (Nat.le_of_ble_eq_true rfl) (dd_of dX11_dyke_0 8 rfl) ⟨Nat.le_of_ble_eq_true rfl, Nat.le_of_ble_eq_true rfl⟩ (fun E9 ce9 qx9 H locs cx ex hS9 z1 z2 z3 => ?_) (fun H locs cx hkp hS9 => ?_)
    · replace hres := ifN cx (bvE rfl hres)
      subst hQ
      exact xout (px := True) (B := (fun E => RES.1 ≠ 0 ∧ E = xN RES.1)) htab hlk hS9 z1 z2 z3 trivial (by rw [← hres]; exact ⟨cx, ex⟩) (Nat.le_of_ble_eq_true rfl) (Nat.le_of_ble_eq_true rfl) hfree
    · replace hres := ifE cx (bvE rfl hres)
      replace hok := bvO rfl hok
      replace hok := hok cx
      have hS := hS9.mono hE
      have hV := hkp _ hV
      have hP := hkp _ hP
      refine lv_iload_n hx hb (dd_of dX11_dyke_0 9 rfl) rfl (lv_at hl 3 rfl) ?_
      refine lv_if_ne (tgt := 22) hx hb (dd_of dX11_dyke_0 10 rfl) (by decide) (fun c3 => ?_) (fun c3 => ?_)
      · replace hres := ifN c3 hres
        replace hok := hok.2 c3
        refine lv_iload_n hx hb (dd_of dX11_dyke_0 14 rfl) rfl (lv_at hl 3 rfl) ?_
        refine lv_iconst (v := 1) hx hb (dd_of dX11_dyke_0 15 rfl) (by decide) ?_
        obtain ⟨z10, q9⟩ : ∃ z : Int32, (if p2 = 1 then (Int64.toInt32 (G 61 k1)) else (F 39 k1)) = z := ⟨_, rfl⟩
        have o12 := hok
        refine jn_i (ls := ls) (v := z10) 39 [] (fun v7 ev7 => ?_) (fun K11 => ?_)
        · replace hres := bvE (ev7.trans q9.symm) hres
          subst hQ
          refine vx_ret (W.widen (k := 9) (n := 64) (Nat.le_of_ble_eq_true rfl) (Nat.le_of_ble_eq_true rfl) ?_)
          exact W.iret (v := v7) hx hb hr (fun t ht hW => ⟨⟨v7, (), rfl, hres.symm, trivial⟩, hS9.F ht⟩) (fun z hz => hfree _ (hS9.2.2 z hz)) (dd_of dX11_dyke_0 23 rfl) hlk
        · skip
          refine lv_icmp_ne (tgt := 35) hx hb (dd_of dX11_dyke_0 16 rfl) (by decide) (fun c4 => ?_) (fun c4 => ?_)
          · replace q9 := ifN c4 q9
            replace o12 := o12.2 c4
            refine lv_aload_n hx hb (dd_of dX11_dyke_0 21 rfl) rfl (lv_at hl 0 rfl) ?_
            have h5 := o12
            obtain ⟨qx9, hqx9⟩ := lWg_dyke (yy := yy) (B := B) (F := F) (G := G) h5
            refine va_get (D := D) (cl := vwCl) (tys := jT yy) (ci := 3) (v := .int (F 39 k1)) (C := RX3) (T := TX3) (N := 7) hx hb hts (fun w h => List.mem_cons_of_mem _ (inlX3 w h)) hown hK hP qx9 hqx9 rfl 6 (by decide) (jw hts gw1071) (fun _ h9 => h9) rfl (dd_of dX11_dyke_0 22 rfl) ?_
            exact K11 _ q9
          · replace q9 := ifE c4 q9
            replace o12 := o12.1 c4
            refine lv_aload_n hx hb (dd_of dX11_dyke_0 17 rfl) rfl (lv_at hl 0 rfl) ?_
            have h6 := o12
            obtain ⟨qx9, hqx9⟩ := lWg_dyke (yy := yy) (B := B) (F := F) (G := G) h6
            refine va_get (D := D) (cl := vwCl) (tys := jT yy) (ci := 3) (v := .long (G 61 k1)) (C := RX3) (T := TX3) (N := 7) hx hb hts (fun w h => List.mem_cons_of_mem _ (inlX3 w h)) hown hK hP qx9 hqx9 rfl 5 (by decide) (jw hts gw1070) (fun _ h9 => h9) rfl (dd_of dX11_dyke_0 18 rfl) ?_
            refine lv_l2i (v := (Int64.toInt32 (G 61 k1))) hx hb (dd_of dX11_dyke_0 19 rfl) rfl ?_
            refine lv_goto (tgt := 39) hx hb (dd_of dX11_dyke_0 20 rfl) (by decide) ?_
            exact K11 _ q9
      · replace hres := ifE c3 hres
        replace hok := hok.1 c3
        refine lv_aload_n hx hb (dd_of dX11_dyke_0 11 rfl) rfl (lv_at hl 0 rfl) ?_
        have h8 := hok
        obtain ⟨qx9, hqx9⟩ := lWg_dyke (yy := yy) (B := B) (F := F) (G := G) h8
        refine va_get (D := D) (cl := vwCl) (tys := jT yy) (ci := 3) (v := .int (F 35 k1)) (C := RX3) (T := TX3) (N := 7) hx hb hts (fun w h => List.mem_cons_of_mem _ (inlX3 w h)) hown hK hP qx9 hqx9 rfl 2 (by decide) (jw hts gw1069) (fun _ h9 => h9) rfl (dd_of dX11_dyke_0 12 rfl) ?_
        subst hQ
        refine vx_ret (W.widen (k := 9) (n := 64) (Nat.le_of_ble_eq_true rfl) (Nat.le_of_ble_eq_true rfl) ?_)
        exact W.iret (v := (F 35 k1)) hx hb hr (fun t ht hW => ⟨⟨(F 35 k1), (), rfl, hres.symm, trivial⟩, hS9.F ht⟩) (fun z hz => hfree _ (hS9.2.2 z hz)) (dd_of dX11_dyke_0 13 rfl) hlk
set_option maxHeartbeats 4000000 in
set_option maxRecDepth 100000 in
theorem qX11_crew (l : Launch) (hl9 : l.stackTraces = false) (D : va_G) (yy : Nat → ClassId) (h0 an : Nat) (B B2 : Nat → Nat) (F : jF) (G : jG) (F2 : jF) (G2 : jG) (M : jF) (sz : Nat) (p1 : Int32) (p2 : Int32) (hok : okX11_crew F G M p1 p2) : vx_Met l yX11_crew (Cond.code yX11_crew cX11_crew 4 (some .int) :: wsL_law) rmX11_crew (va_Pc [.ref h0, .int p1, .int p2] (jV D yy (pV yy h0 an B B2 F G F2 G2 M) sz)) (va_Qi (fun r (_ : Unit) => gX11_crew F G M p1 p2 = (0, r)) (fun _ _ => True) (jE sz)) (vx_X (fun _ : Unit => True) (fun E _ _ => (gX11_crew F G M p1 p2).1 ≠ 0 ∧ E = xN (gX11_crew F G M p1 p2).1) (jE sz)) 9 64 (jE sz) := by
  generalize hres : gX11_crew F G M p1 p2 = RES
  refine jMX (vs := [.ref h0, .int p1, .int p2]) (own := RX11) (by decide +kernel) rfl (Nat.le_of_ble_eq_true rfl) ?_
  intro p e s m args below meth c ls Q hQ hargs S hr hlk htab hB hl
  obtain ⟨hx, hb, hml, hown, hts⟩ := S
  have hl : lv_has ls 4 [(0, .ref h0), (1, .int p1), (2, .int p2)] := hl

  obtain ⟨⟨hsz, hV, hK⟩, hT⟩ := hB
  subst hsz
  have hE : ∀ q, jE s.heap.size q → jE s.heap.size q := fun _ h => h
  have hfree : ∀ q, jE s.heap.size q → jE s.heap.size q := fun _ h => h
  have hA : ∀ q : Nat, s.heap.size ≤ q → jE s.heap.size q := fun _ h => h
  obtain ⟨H, hH⟩ : ∃ z, z = s.heap := ⟨_, rfl⟩
  obtain ⟨locs, hlocs⟩ : ∃ z : List Loc, z = [] := ⟨_, rfl⟩
  have hS9 : va_S (jE s.heap.size) s.heap H locs := by rw [hH, hlocs]; exact va_S.rf
  have hS := hS9
  rw [← hH] at hV
  have hP : va_P D vwCl (lW yy B F G) H := fun k q hk => hV (2 + k) q (ap_get (ap_getl hk))
  suffices hgo : W p l e rmX11_crew s m args below meth c H locs 0 0 Q (F0 m 0 ls []) by rw [hH, hlocs] at hgo; exact hgo
  unfold gX11_crew at hres
  unfold okX11_crew at hok
  refine lv_aload_n hx hb (dd_of dX11_crew_0 0 rfl) rfl (lv_at hl 0 rfl) ?_
  refine lv_iload_n hx hb (dd_of dX11_crew_0 1 rfl) rfl (lv_at hl 1 rfl) ?_
  have hk9 := hok.1
  replace hok := hok.2
  refine xc_q (B := B) (off := 700) (g := (gX11_needCrew F G p1)) (As := [.int p1]) (rest := []) (w := (pV yy h0 an B B2 F G F2 G2 M)) (D := D) (yy := yy) ⟨hx, hb, hml, hown, hts⟩ (qX11_needCrew l hl9 D yy h0 an B B2 F G F2 G2 M H.size p1 hk9) (cwV 1 hts (jgV gw834 gw835 gw836 gw2 gw837) rfl rfl rfl (by decide +kernel) ⟨Nat.le_of_ble_eq_true rfl, Nat.le_of_ble_eq_true rfl⟩) hV hK hT hS hA hS9 (va_recv hK hV (ci := 11) (q0 := 0) rfl rfl) rfl hl.1 rfl (Nat.le_of_ble_eq_true rfl) (dd_of dX11_crew_0 2 rfl) ⟨Nat.le_of_ble_eq_true rfl, Nat.le_of_ble_eq_true rfl⟩ (fun E9 ce9 qx9 H locs cx ex hS9 z1 z2 z3 => ?_) (fun k1 H locs cx hkp hS9 => ?_)
  · rw [cx] at hres
    replace hres := omN hres
    subst hQ
    exact xout (px := True) (B := (fun E => RES.1 ≠ 0 ∧ E = xN RES.1)) htab hlk hS9 z1 z2 z3 trivial (by rw [← hres]; exact ⟨Nat.one_ne_zero, ex⟩) (Nat.le_of_ble_eq_true rfl) (Nat.le_of_ble_eq_true rfl) hfree
  · rw [cx] at hres
    replace hres := omS hres
    rw [cx] at hok
    replace hok := opS hok
    have hS := hS9.mono hE
    have hV := hkp _ hV
    have hP := hkp _ hP
    refine lv_astore_n (lv' := [(3, .ref (B (700 + k1))), (0, .ref h0), (1, .int p1), (2, .int p2)]) hx hb (dd_of dX11_crew_0 3 rfl) rfl hl (by decide) rfl (fun ls hl => ?_)
    refine lv_aload_n hx hb (dd_of dX11_crew_0 4 rfl) rfl (lv_at hl 1 rfl) ?_
    refine lv_iload_n hx hb (dd_of dX11_crew_0 5 rfl) rfl (lv_at hl 3 rfl) ?_
    refine lv_iconst (v := 0) hx hb (dd_of dX11_crew_0 6 rfl) (by decide) ?_
    refine lv_iconst (v := 2) hx hb (dd_of dX11_crew_0 7 rfl) (by decide) ?_
    refine xc_v (g := (gX11_needRange p2 0 2)) (As := [.int p2, .int 0, .int 2]) (rest := []) (w := ([] : va_W)) (D := D) (yy := yy) ⟨hx, hb, hml, hown, hts⟩ (qX11_needRange l hl9 D yy h0 H.size p2 0 2) (cwV 3 hts (jgV gw183 gw184 gw185 gw2 gw186) rfl rfl rfl (by decide +kernel) ⟨Nat.le_of_ble_eq_true rfl, Nat.le_of_ble_eq_true rfl⟩) (fun k q h => by simp at h) hK hT hS hA hS9 (va_recv hK hV (ci := 11) (q0 := 0) rfl rfl) rfl hl.1 rfl (Nat.le_of_ble_eq_true rfl) (dd_of dX11_crew_0 8 rfl) ⟨Nat.le_of_ble_eq_true rfl, Nat.le_of_ble_eq_true rfl⟩ (fun E9 ce9 qx9 H locs cx ex hS9 z1 z2 z3 => ?_) (fun H locs cx hkp hS9 => ?_)
    · replace hres := ifN cx (bvE rfl hres)
      subst hQ
      exact xout (px := True) (B := (fun E => RES.1 ≠ 0 ∧ E = xN RES.1)) htab hlk hS9 z1 z2 z3 trivial (by rw [← hres]; exact ⟨cx, ex⟩) (Nat.le_of_ble_eq_true rfl) (Nat.le_of_ble_eq_true rfl) hfree
    · replace hres := ifE cx (bvE rfl hres)
      replace hok := bvO rfl hok
      replace hok := hok cx
      have hS := hS9.mono hE
      have hV := hkp _ hV
      have hP := hkp _ hP
      refine lv_iload_n hx hb (dd_of dX11_crew_0 9 rfl) rfl (lv_at hl 3 rfl) ?_
      refine lv_if_ne (tgt := 22) hx hb (dd_of dX11_crew_0 10 rfl) (by decide) (fun c3 => ?_) (fun c3 => ?_)
      · replace hres := ifN c3 hres
        replace hok := hok.2 c3
        refine lv_iload_n hx hb (dd_of dX11_crew_0 14 rfl) rfl (lv_at hl 3 rfl) ?_
        refine lv_iconst (v := 1) hx hb (dd_of dX11_crew_0 15 rfl) (by decide) ?_
        obtain ⟨z10, q9⟩ : ∃ z : Int32, (if p2 = 1 then (F 50 k1) else (F 64 k1)) = z := ⟨_, rfl⟩
        have o12 := hok
        refine jn_i (ls := ls) (v := z10) 38 [] (fun v7 ev7 => ?_) (fun K11 => ?_)
        · replace hres := bvE (ev7.trans q9.symm) hres
          subst hQ
          refine vx_ret (W.widen (k := 9) (n := 64) (Nat.le_of_ble_eq_true rfl) (Nat.le_of_ble_eq_true rfl) ?_)
          exact W.iret (v := v7) hx hb hr (fun t ht hW => ⟨⟨v7, (), rfl, hres.symm, trivial⟩, hS9.F ht⟩) (fun z hz => hfree _ (hS9.2.2 z hz)) (dd_of dX11_crew_0 22 rfl) hlk
        · skip
          refine lv_icmp_ne (tgt := 34) hx hb (dd_of dX11_crew_0 16 rfl) (by decide) (fun c4 => ?_) (fun c4 => ?_)
          · replace q9 := ifN c4 q9
            replace o12 := o12.2 c4
            refine lv_aload_n hx hb (dd_of dX11_crew_0 20 rfl) rfl (lv_at hl 0 rfl) ?_
            have h5 := o12
            obtain ⟨qx9, hqx9⟩ := lWg_crew (yy := yy) (B := B) (F := F) (G := G) h5
            refine va_get (D := D) (cl := vwCl) (tys := jT yy) (ci := 2) (v := .int (F 64 k1)) (C := RX2) (T := TX2) (N := 3) hx hb hts (fun w h => List.mem_cons_of_mem _ (inlX2 w h)) hown hK hP qx9 hqx9 rfl 2 (by decide) (jw hts gw1085) (fun _ h9 => h9) rfl (dd_of dX11_crew_0 21 rfl) ?_
            exact K11 _ q9
          · replace q9 := ifE c4 q9
            replace o12 := o12.1 c4
            refine lv_aload_n hx hb (dd_of dX11_crew_0 17 rfl) rfl (lv_at hl 0 rfl) ?_
            have h6 := o12
            obtain ⟨qx9, hqx9⟩ := lWg_crew (yy := yy) (B := B) (F := F) (G := G) h6
            refine va_get (D := D) (cl := vwCl) (tys := jT yy) (ci := 2) (v := .int (F 50 k1)) (C := RX2) (T := TX2) (N := 3) hx hb hts (fun w h => List.mem_cons_of_mem _ (inlX2 w h)) hown hK hP qx9 hqx9 rfl 1 (by decide) (jw hts gw1084) (fun _ h9 => h9) rfl (dd_of dX11_crew_0 18 rfl) ?_
            refine lv_goto (tgt := 38) hx hb (dd_of dX11_crew_0 19 rfl) (by decide) ?_
            exact K11 _ q9
      · replace hres := ifE c3 hres
        replace hok := hok.1 c3
        refine lv_aload_n hx hb (dd_of dX11_crew_0 11 rfl) rfl (lv_at hl 0 rfl) ?_
        have h8 := hok
        obtain ⟨qx9, hqx9⟩ := lWg_crew (yy := yy) (B := B) (F := F) (G := G) h8
        refine va_get (D := D) (cl := vwCl) (tys := jT yy) (ci := 2) (v := .int (F 49 k1)) (C := RX2) (T := TX2) (N := 3) hx hb hts (fun w h => List.mem_cons_of_mem _ (inlX2 w h)) hown hK hP qx9 hqx9 rfl 0 (by decide) (jw hts gw1083) (fun _ h9 => h9) rfl (dd_of dX11_crew_0 12 rfl) ?_
        subst hQ
        refine vx_ret (W.widen (k := 9) (n := 64) (Nat.le_of_ble_eq_true rfl) (Nat.le_of_ble_eq_true rfl) ?_)
        exact W.iret (v := (F 49 k1)) hx hb hr (fun t ht hW => ⟨⟨(F 49 k1), (), rfl, hres.symm, trivial⟩, hS9.F ht⟩) (fun z hz => hfree _ (hS9.2.2 z hz)) (dd_of dX11_crew_0 13 rfl) hlk
set_option maxHeartbeats 4000000 in
set_option maxRecDepth 100000 in
theorem qX11_sea (l : Launch) (hl9 : l.stackTraces = false) (D : va_G) (yy : Nat → ClassId) (h0 an : Nat) (B B2 : Nat → Nat) (F : jF) (G : jG) (F2 : jF) (G2 : jG) (M : jF) (sz : Nat) (p1 : Int32) (hok : okX11_sea F G M p1) : vx_Met l yX11_sea (Cond.code yX11_sea cX11_sea 2 (some .long) :: wsL_law) rmX11_sea (va_Pc [.ref h0, .int p1] (jV D yy (pV yy h0 an B B2 F G F2 G2 M) sz)) (va_Ql (fun r (_ : Unit) => gX11_sea F G M p1 = (0, r)) (fun _ _ => True) (jE sz)) (vx_X (fun _ : Unit => True) (fun E _ _ => (gX11_sea F G M p1).1 ≠ 0 ∧ E = xN (gX11_sea F G M p1).1) (jE sz)) 9 64 (jE sz) := by
  generalize hres : gX11_sea F G M p1 = RES
  refine jMX (vs := [.ref h0, .int p1]) (own := RX11) (by decide +kernel) rfl (Nat.le_of_ble_eq_true rfl) ?_
  intro p e s m args below meth c ls Q hQ hargs S hr hlk htab hB hl
  obtain ⟨hx, hb, hml, hown, hts⟩ := S
  have hl : lv_has ls 2 [(0, .ref h0), (1, .int p1)] := hl

  obtain ⟨⟨hsz, hV, hK⟩, hT⟩ := hB
  subst hsz
  have hE : ∀ q, jE s.heap.size q → jE s.heap.size q := fun _ h => h
  have hfree : ∀ q, jE s.heap.size q → jE s.heap.size q := fun _ h => h
  have hA : ∀ q : Nat, s.heap.size ≤ q → jE s.heap.size q := fun _ h => h
  obtain ⟨H, hH⟩ : ∃ z, z = s.heap := ⟨_, rfl⟩
  obtain ⟨locs, hlocs⟩ : ∃ z : List Loc, z = [] := ⟨_, rfl⟩
  have hS9 : va_S (jE s.heap.size) s.heap H locs := by rw [hH, hlocs]; exact va_S.rf
  have hS := hS9
  rw [← hH] at hV
  have hP : va_P D vwCl (lW yy B F G) H := fun k q hk => hV (2 + k) q (ap_get (ap_getl hk))
  suffices hgo : W p l e rmX11_sea s m args below meth c H locs 0 0 Q (F0 m 0 ls []) by rw [hH, hlocs] at hgo; exact hgo
  unfold gX11_sea at hres
  unfold okX11_sea at hok
  refine lv_aload_n hx hb (dd_of dX11_sea_0 0 rfl) rfl (lv_at hl 0 rfl) ?_
  refine lv_iload_n hx hb (dd_of dX11_sea_0 1 rfl) rfl (lv_at hl 1 rfl) ?_
  refine lv_iconst (v := 0) hx hb (dd_of dX11_sea_0 2 rfl) (by decide) ?_
  refine lv_sipush (v := 9999) hx hb (dd_of dX11_sea_0 3 rfl) (by decide) ?_
  refine xc_v (g := (gX11_needRange p1 0 9999)) (As := [.int p1, .int 0, .int 9999]) (rest := []) (w := ([] : va_W)) (D := D) (yy := yy) ⟨hx, hb, hml, hown, hts⟩ (qX11_needRange l hl9 D yy h0 H.size p1 0 9999) (cwV 3 hts (jgV gw183 gw184 gw185 gw2 gw186) rfl rfl rfl (by decide +kernel) ⟨Nat.le_of_ble_eq_true rfl, Nat.le_of_ble_eq_true rfl⟩) (fun k q h => by simp at h) hK hT hS hA hS9 (va_recv hK hV (ci := 11) (q0 := 0) rfl rfl) rfl hl.1 rfl (Nat.le_of_ble_eq_true rfl) (dd_of dX11_sea_0 4 rfl) ⟨Nat.le_of_ble_eq_true rfl, Nat.le_of_ble_eq_true rfl⟩ (fun E9 ce9 qx9 H locs cx ex hS9 z1 z2 z3 => ?_) (fun H locs cx hkp hS9 => ?_)
  · replace hres := ifN cx (bvE rfl hres)
    subst hQ
    exact xout (px := True) (B := (fun E => RES.1 ≠ 0 ∧ E = xN RES.1)) htab hlk hS9 z1 z2 z3 trivial (by rw [← hres]; exact ⟨cx, ex⟩) (Nat.le_of_ble_eq_true rfl) (Nat.le_of_ble_eq_true rfl) hfree
  · replace hres := ifE cx (bvE rfl hres)
    replace hok := bvO rfl hok
    replace hok := hok cx
    have hS := hS9.mono hE
    have hV := hkp _ hV
    have hP := hkp _ hP
    refine lv_aload_n hx hb (dd_of dX11_sea_0 5 rfl) rfl (lv_at hl 0 rfl) ?_
    refine va_get (D := D) (cl := vwCl) (tys := jT yy) (ci := 11) (v := .ref (B 0)) (C := RX11) (T := TX11) (N := 5) hx hb hts (fun w h => List.mem_cons_of_mem _ (inlX11 w h)) hown hK hV 0 rfl rfl 0 (by decide) (jw hts gw16) (fun _ h9 => h9) rfl (dd_of dX11_sea_0 6 rfl) ?_
    refine va_get (D := D) (cl := vwCl) (tys := jT yy) (ci := 5) (v := .ref (B 1)) (C := RX5) (T := TX5) (N := 10) hx hb hts (fun w h => List.mem_cons_of_mem _ (inlX5 w h)) hown hK hP 0 rfl rfl 0 (by decide) (jw hts gw181) (fun _ h9 => h9) rfl (dd_of dX11_sea_0 7 rfl) ?_
    refine va_get (D := D) (cl := vwCl) (tys := jT yy) (ci := 10) (v := .ref (B 9)) (C := RX10) (T := TX10) (N := 8) hx hb hts (fun w h => List.mem_cons_of_mem _ (inlX10 w h)) hown hK hP 1 rfl rfl 2 (by decide) (jw hts gw730) (fun _ h9 => h9) rfl (dd_of dX11_sea_0 8 rfl) ?_
    refine lv_iload_n hx hb (dd_of dX11_sea_0 9 rfl) rfl (lv_at hl 1 rfl) ?_
    have h2 := hok
    refine jc_l (As := [.int p1]) (rest := []) (w := (lW yy B F G)) (D := D) (yy := yy) ⟨hx, hb, hml, hown, hts⟩ (qX6_seaAt l D yy B F G  p1 h2) (cwV 1 hts (jgV gw1097 gw67 gw68 gw53 gw69) rfl rfl rfl (by decide +kernel) ⟨Nat.le_of_ble_eq_true rfl, Nat.le_of_ble_eq_true rfl⟩) hP hK (va_recv hK hP (ci := 6) (q0 := 4) rfl rfl) rfl hl.1 rfl (Nat.le_of_ble_eq_true rfl) (dd_of dX11_sea_0 10 rfl) ⟨Nat.le_of_ble_eq_true rfl, Nat.le_of_ble_eq_true rfl⟩ (fun x3 ex3 => ?_)
    replace hres := bvE ex3 hres
    subst hQ
    refine vx_ret (W.widen (k := 9) (n := 64) (Nat.le_of_ble_eq_true rfl) (Nat.le_of_ble_eq_true rfl) ?_)
    exact W.lret (v := x3) hx hb hr (fun t ht hW => ⟨⟨x3, (), rfl, hres.symm, trivial⟩, hS9.F ht⟩) (fun z hz => hfree _ (hS9.2.2 z hz)) (dd_of dX11_sea_0 11 rfl) hlk
set_option maxHeartbeats 4000000 in
set_option maxRecDepth 100000 in
theorem qX11_share (l : Launch) (hl9 : l.stackTraces = false) (D : va_G) (yy : Nat → ClassId) (h0 an : Nat) (B B2 : Nat → Nat) (F : jF) (G : jG) (F2 : jF) (G2 : jG) (M : jF) (sz : Nat) (p1 : Int32) (p2 : Int32) (hok : okX11_share F G M p1 p2) : vx_Met l yX11_share (Cond.code yX11_share cX11_share 3 (some .int) :: wsL_law) rmX11_share (va_Pc [.ref h0, .int p1, .int p2] (jV D yy (pV yy h0 an B B2 F G F2 G2 M) sz)) (va_Qi (fun r (_ : Unit) => gX11_share F G M p1 p2 = (0, r)) (fun _ _ => True) (jE sz)) (vx_X (fun _ : Unit => True) (fun E _ _ => (gX11_share F G M p1 p2).1 ≠ 0 ∧ E = xN (gX11_share F G M p1 p2).1) (jE sz)) 9 64 (jE sz) := by
  generalize hres : gX11_share F G M p1 p2 = RES
  refine jMX (vs := [.ref h0, .int p1, .int p2]) (own := RX11) (by decide +kernel) rfl (Nat.le_of_ble_eq_true rfl) ?_
  intro p e s m args below meth c ls Q hQ hargs S hr hlk htab hB hl
  obtain ⟨hx, hb, hml, hown, hts⟩ := S
  have hl : lv_has ls 3 [(0, .ref h0), (1, .int p1), (2, .int p2)] := hl

  obtain ⟨⟨hsz, hV, hK⟩, hT⟩ := hB
  subst hsz
  have hE : ∀ q, jE s.heap.size q → jE s.heap.size q := fun _ h => h
  have hfree : ∀ q, jE s.heap.size q → jE s.heap.size q := fun _ h => h
  have hA : ∀ q : Nat, s.heap.size ≤ q → jE s.heap.size q := fun _ h => h
  obtain ⟨H, hH⟩ : ∃ z, z = s.heap := ⟨_, rfl⟩
  obtain ⟨locs, hlocs⟩ : ∃ z : List Loc, z = [] := ⟨_, rfl⟩
  have hS9 : va_S (jE s.heap.size) s.heap H locs := by rw [hH, hlocs]; exact va_S.rf
  have hS := hS9
  rw [← hH] at hV
  have hP : va_P D vwCl (lW yy B F G) H := fun k q hk => hV (2 + k) q (ap_get (ap_getl hk))
  suffices hgo : W p l e rmX11_share s m args below meth c H locs 0 0 Q (F0 m 0 ls []) by rw [hH, hlocs] at hgo; exact hgo
  unfold gX11_share at hres
  unfold okX11_share at hok
  refine lv_aload_n hx hb (dd_of dX11_share_0 0 rfl) rfl (lv_at hl 0 rfl) ?_
  refine lv_iload_n hx hb (dd_of dX11_share_0 1 rfl) rfl (lv_at hl 2 rfl) ?_
  have hk9 := hok.1
  replace hok := hok.2
  refine xc_q (B := B) (off := 100) (g := (gX11_needBasin F G p2)) (As := [.int p2]) (rest := []) (w := (pV yy h0 an B B2 F G F2 G2 M)) (D := D) (yy := yy) ⟨hx, hb, hml, hown, hts⟩ (qX11_needBasin l hl9 D yy h0 an B B2 F G F2 G2 M H.size p2 hk9) (cwV 1 hts (jgV gw606 gw607 gw608 gw2 gw609) rfl rfl rfl (by decide +kernel) ⟨Nat.le_of_ble_eq_true rfl, Nat.le_of_ble_eq_true rfl⟩) hV hK hT hS hA hS9 (va_recv hK hV (ci := 11) (q0 := 0) rfl rfl) rfl hl.1 rfl (Nat.le_of_ble_eq_true rfl) (dd_of dX11_share_0 2 rfl) ⟨Nat.le_of_ble_eq_true rfl, Nat.le_of_ble_eq_true rfl⟩ (fun E9 ce9 qx9 H locs cx ex hS9 z1 z2 z3 => ?_) (fun k1 H locs cx hkp hS9 => ?_)
  · rw [cx] at hres
    replace hres := omN hres
    subst hQ
    exact xout (px := True) (B := (fun E => RES.1 ≠ 0 ∧ E = xN RES.1)) htab hlk hS9 z1 z2 z3 trivial (by rw [← hres]; exact ⟨Nat.one_ne_zero, ex⟩) (Nat.le_of_ble_eq_true rfl) (Nat.le_of_ble_eq_true rfl) hfree
  · rw [cx] at hres
    replace hres := omS hres
    rw [cx] at hok
    replace hok := opS hok
    have hS := hS9.mono hE
    have hV := hkp _ hV
    have hP := hkp _ hP
    refine lv_pop hx hb (dd_of dX11_share_0 3 rfl) rfl ?_
    refine lv_aload_n hx hb (dd_of dX11_share_0 4 rfl) rfl (lv_at hl 0 rfl) ?_
    refine lv_iload_n hx hb (dd_of dX11_share_0 5 rfl) rfl (lv_at hl 1 rfl) ?_
    refine lv_iconst (v := 0) hx hb (dd_of dX11_share_0 6 rfl) (by decide) ?_
    refine lv_ldc (v := 999999) hx hb hown (jw hts gw1173) (dd_of dX11_share_0 7 rfl) ?_
    refine xc_v (g := (gX11_needRange p1 0 999999)) (As := [.int p1, .int 0, .int 999999]) (rest := []) (w := ([] : va_W)) (D := D) (yy := yy) ⟨hx, hb, hml, hown, hts⟩ (qX11_needRange l hl9 D yy h0 H.size p1 0 999999) (cwV 3 hts (jgV gw183 gw184 gw185 gw2 gw186) rfl rfl rfl (by decide +kernel) ⟨Nat.le_of_ble_eq_true rfl, Nat.le_of_ble_eq_true rfl⟩) (fun k q h => by simp at h) hK hT hS hA hS9 (va_recv hK hV (ci := 11) (q0 := 0) rfl rfl) rfl hl.1 rfl (Nat.le_of_ble_eq_true rfl) (dd_of dX11_share_0 8 rfl) ⟨Nat.le_of_ble_eq_true rfl, Nat.le_of_ble_eq_true rfl⟩ (fun E9 ce9 qx9 H locs cx ex hS9 z1 z2 z3 => ?_) (fun H locs cx hkp hS9 => ?_)
    · replace hres := ifN cx (bvE rfl hres)
      subst hQ
      exact xout (px := True) (B := (fun E => RES.1 ≠ 0 ∧ E = xN RES.1)) htab hlk hS9 z1 z2 z3 trivial (by rw [← hres]; exact ⟨cx, ex⟩) (Nat.le_of_ble_eq_true rfl) (Nat.le_of_ble_eq_true rfl) hfree
    · replace hres := ifE cx (bvE rfl hres)
      replace hok := bvO rfl hok
      replace hok := hok cx
      have hS := hS9.mono hE
      have hV := hkp _ hV
      have hP := hkp _ hP
      refine lv_aload_n hx hb (dd_of dX11_share_0 9 rfl) rfl (lv_at hl 0 rfl) ?_
      refine va_get (D := D) (cl := vwCl) (tys := jT yy) (ci := 11) (v := .ref (B 0)) (C := RX11) (T := TX11) (N := 5) hx hb hts (fun w h => List.mem_cons_of_mem _ (inlX11 w h)) hown hK hV 0 rfl rfl 0 (by decide) (jw hts gw16) (fun _ h9 => h9) rfl (dd_of dX11_share_0 10 rfl) ?_
      refine lv_iload_n hx hb (dd_of dX11_share_0 11 rfl) rfl (lv_at hl 1 rfl) ?_
      refine lv_i2l (v := (Int32.toInt64 p1)) hx hb (dd_of dX11_share_0 12 rfl) rfl ?_
      refine lv_iload_n hx hb (dd_of dX11_share_0 13 rfl) rfl (lv_at hl 2 rfl) ?_
      have h3 := hok
      refine jc_l (As := [.long (Int32.toInt64 p1), .int p2]) (rest := []) (w := (lW yy B F G)) (D := D) (yy := yy) ⟨hx, hb, hml, hown, hts⟩ (qX5_partOf l D yy B F G  (Int32.toInt64 p1) p2 h3) (cwV 2 hts (jgV gw1174 gw1175 gw1176 gw15 gw1177) rfl rfl rfl (by decide +kernel) ⟨Nat.le_of_ble_eq_true rfl, Nat.le_of_ble_eq_true rfl⟩) hP hK (va_recv hK hP (ci := 5) (q0 := 0) rfl rfl) rfl hl.1 rfl (Nat.le_of_ble_eq_true rfl) (dd_of dX11_share_0 14 rfl) ⟨Nat.le_of_ble_eq_true rfl, Nat.le_of_ble_eq_true rfl⟩ (fun x4 ex4 => ?_)
      replace hres := bvE ex4 hres
      refine lv_l2i (v := (Int64.toInt32 x4)) hx hb (dd_of dX11_share_0 15 rfl) rfl ?_
      subst hQ
      refine vx_ret (W.widen (k := 9) (n := 64) (Nat.le_of_ble_eq_true rfl) (Nat.le_of_ble_eq_true rfl) ?_)
      exact W.iret (v := (Int64.toInt32 x4)) hx hb hr (fun t ht hW => ⟨⟨(Int64.toInt32 x4), (), rfl, hres.symm, trivial⟩, hS9.F ht⟩) (fun z hz => hfree _ (hS9.2.2 z hz)) (dd_of dX11_share_0 16 rfl) hlk
set_option maxHeartbeats 4000000 in
set_option maxRecDepth 100000 in
theorem qX11_digest (l : Launch) (hl9 : l.stackTraces = false) (D : va_G) (yy : Nat → ClassId) (h0 an : Nat) (B B2 : Nat → Nat) (F : jF) (G : jG) (F2 : jF) (G2 : jG) (M : jF) (sz : Nat)  (hok : okX11_digest F G M ) : vx_Met l yX11_digest (Cond.code yX11_digest cX11_digest 1 (some .long) :: wsL_law) rmX11_digest (va_Pc [.ref h0] (jV D yy (pV yy h0 an B B2 F G F2 G2 M) sz)) (va_Ql (fun r (_ : Unit) => gX11_digest F G M  = (0, r)) (fun _ _ => True) (jE sz)) (vx_X (fun _ : Unit => True) (fun E _ _ => (gX11_digest F G M ).1 ≠ 0 ∧ E = xN (gX11_digest F G M ).1) (jE sz)) 9 64 (jE sz) := by
  generalize hres : gX11_digest F G M  = RES
  refine jMX (vs := [.ref h0]) (own := RX11) (by decide +kernel) rfl (Nat.le_of_ble_eq_true rfl) ?_
  intro p e s m args below meth c ls Q hQ hargs S hr hlk htab hB hl
  obtain ⟨hx, hb, hml, hown, hts⟩ := S
  have hl : lv_has ls 1 [(0, .ref h0)] := hl

  obtain ⟨⟨hsz, hV, hK⟩, hT⟩ := hB
  subst hsz
  have hE : ∀ q, jE s.heap.size q → jE s.heap.size q := fun _ h => h
  have hfree : ∀ q, jE s.heap.size q → jE s.heap.size q := fun _ h => h
  have hA : ∀ q : Nat, s.heap.size ≤ q → jE s.heap.size q := fun _ h => h
  obtain ⟨H, hH⟩ : ∃ z, z = s.heap := ⟨_, rfl⟩
  obtain ⟨locs, hlocs⟩ : ∃ z : List Loc, z = [] := ⟨_, rfl⟩
  have hS9 : va_S (jE s.heap.size) s.heap H locs := by rw [hH, hlocs]; exact va_S.rf
  have hS := hS9
  rw [← hH] at hV
  have hP : va_P D vwCl (lW yy B F G) H := fun k q hk => hV (2 + k) q (ap_get (ap_getl hk))
  suffices hgo : W p l e rmX11_digest s m args below meth c H locs 0 0 Q (F0 m 0 ls []) by rw [hH, hlocs] at hgo; exact hgo
  unfold gX11_digest at hres
  unfold okX11_digest at hok
  refine lv_aload_n hx hb (dd_of dX11_digest_0 0 rfl) rfl (lv_at hl 0 rfl) ?_
  refine va_get (D := D) (cl := vwCl) (tys := jT yy) (ci := 11) (v := .ref (B 0)) (C := RX11) (T := TX11) (N := 5) hx hb hts (fun w h => List.mem_cons_of_mem _ (inlX11 w h)) hown hK hV 0 rfl rfl 0 (by decide) (jw hts gw16) (fun _ h9 => h9) rfl (dd_of dX11_digest_0 1 rfl) ?_
  have h1 := hok
  refine jc_l (As := []) (rest := []) (w := (lW yy B F G)) (D := D) (yy := yy) ⟨hx, hb, hml, hown, hts⟩ (qX5_sumOfAll l D yy B F G   h1) (cwV 0 hts (jgV gw1225 gw1226 gw1227 gw15 gw1228) rfl rfl rfl (by decide +kernel) ⟨Nat.le_of_ble_eq_true rfl, Nat.le_of_ble_eq_true rfl⟩) hP hK (va_recv hK hP (ci := 5) (q0 := 0) rfl rfl) rfl hl.1 rfl (Nat.le_of_ble_eq_true rfl) (dd_of dX11_digest_0 2 rfl) ⟨Nat.le_of_ble_eq_true rfl, Nat.le_of_ble_eq_true rfl⟩ (fun x2 ex2 => ?_)
  replace hres := bvE ex2 hres
  subst hQ
  refine vx_ret (W.widen (k := 9) (n := 64) (Nat.le_of_ble_eq_true rfl) (Nat.le_of_ble_eq_true rfl) ?_)
  exact W.lret (v := x2) hx hb hr (fun t ht hW => ⟨⟨x2, (), rfl, hres.symm, trivial⟩, hS9.F ht⟩) (fun z hz => hfree _ (hS9.2.2 z hz)) (dd_of dX11_digest_0 3 rfl) hlk
