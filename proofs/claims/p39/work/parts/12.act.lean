def jN (D : va_G) (yy : Nat → ClassId) (w : va_W) (sz an : Nat) (N : Nat → Int32) : State → Prop := fun U => jP D yy w sz U ∧ va_P D vwCl [(an, .inl (yy 0, 3078, .inl N))] U.heap
theorem jN_blind {vs : List Value} {D : va_G} {yy : Nat → ClassId} {w : va_W} {sz an : Nat} {N : Nat → Int32} : FrameBlind (va_Pc vs (jN D yy w sz an N)) := fun a U g mk q => ⟨q.1, ⟨q.2.1.1, q.2.1.2.1, va_K.moved (u := U) (U := U.calling g mk a) (Vm.Alike.refl U.vm) q.2.1.2.2.1, q.2.1.2.2.2⟩, q.2.2⟩
theorem jcase (c0 : Prop) [Decidable c0] {p : Program} {l : Launch} {e : Env} {R : Room} {s : State} {m : MethodId} {args : Array Value} {below : List Frame} {meth : Method} {c : Code} {H : Heap} {locs : List Loc} {cells slots : Nat} {Q : State → Prop} {g : JFrame} (a : c0 → W p l e R s m args below meth c H locs cells slots Q g) (b : ¬ c0 → W p l e R s m args below meth c H locs cells slots Q g) : W p l e R s m args below meth c H locs cells slots Q g := if h : c0 then a h else b h
def gX10_tellStorm (F : jF) (G : jG) (p1 : Int32) (p2 : Int32) (p3 : Int32) : (Int32 × jS) := br (gX6_addStorm F G p1 p2 p3) (fun (x1 : Int32) (F2 : jF) (G3 : jG) => bv (gX6_seaAt F2 G3  (F2 0 0)) (fun x6 : Int64 => bv (u2 G3 69 0 x6) (fun G7 : jG => (x1, (F2, G7)))))
def okX10_tellStorm (F : jF) (G : jG) (p1 : Int32) (p2 : Int32) (p3 : Int32) : Prop := ((lK F ∧ lroom F 40 12) ∧ br (gX6_addStorm F G p1 p2 p3) (fun (x1 : Int32) (F2 : jF) (G3 : jG) => (okX6_seaAt F2 G3  (F2 0 0))))
abbrev rmX10_tellStorm : Room := { frames := 4, cells := 1, slots := 4, locals := 91 }
def gX5_act (F : jF) (G : jG) (N : Nat → Int32) (p2 : Int32) : (Int64 × jS) := (if p2 < 0 then (0, (F, G)) else (if (p2 + 6) ≤ 3078 then bv (N (Int32.toNatClampNeg (p2 + 1))) (fun x4 : Int32 => bv (N (Int32.toNatClampNeg (p2 + 2))) (fun x6 : Int32 => bv (N (Int32.toNatClampNeg (p2 + 3))) (fun x8 : Int32 => bv (N (Int32.toNatClampNeg (p2 + 4))) (fun x10 : Int32 => bv (N (Int32.toNatClampNeg (p2 + 5))) (fun x12 : Int32 => bv (N (Int32.toNatClampNeg p2)) (fun x14 : Int32 => (if x14 = 0 then br (gX10_newBasin F G x4 x6) (fun (x16 : Int32) (F17 : jF) (G18 : jG) => ((Int32.toInt64 x16), (F17, G18))) else (if x14 = 1 then br (gX10_layOut F G  x4 x6 x8 x10) (fun (x25 : Int32) (F22 : jF) (G23 : jG) => ((Int32.toInt64 x25), (F22, G23))) else (if x14 = 2 then br (gX10_pourInto F G  x4 x6) (fun (x31 : Int64) (F28 : jF) (G29 : jG) => (x31, (F28, G29))) else (if x14 = 3 then bv ((if x8 = 0 then 0 else 1) : Int32) (fun v34 : Int32 => br (gX8_build F G  x4 x6 v34) (fun (x39 : Int32) (F36 : jF) (G37 : jG) => bv ((if x39 = 0 then 0 else 1) : Int64) (fun v41 : Int64 => (v41, (F36, G37))))) else (if x14 = 4 then br (gX5_newGate F G x4 x6 x8 x10) (fun (x43 : Int32) (F44 : jF) (G45 : jG) => ((Int32.toInt64 x43), (F44, G45))) else (if x14 = 5 then br (gX5_newPump F G x4 x6 x8 x10 x12) (fun (x48 : Int32) (F49 : jF) (G50 : jG) => ((Int32.toInt64 x48), (F49, G50))) else (if x14 = 6 then br (gX5_newDyke F G x4 x6 x8 x10 x12) (fun (x53 : Int32) (F54 : jF) (G55 : jG) => ((Int32.toInt64 x53), (F54, G55))) else (if x14 = 7 then br (gX10_layOutside F G  x4 x6 x8) (fun (x62 : Int32) (F59 : jF) (G60 : jG) => ((Int32.toInt64 x62), (F59, G60))) else (if x14 = 8 then br (gX10_tellStorm F G x4 x6 x8) (fun (x64 : Int32) (F65 : jF) (G66 : jG) => ((Int32.toInt64 x64), (F65, G66))) else (if x14 = 9 then br (gX10_tellRain F G x4 x6 x8 x10) (fun (x69 : Int32) (F70 : jF) (G71 : jG) => ((Int32.toInt64 x69), (F70, G71))) else (if x14 = 10 then br (gX6_sow F G  x4) (fun (x77 : Int32) (F74 : jF) (G75 : jG) => ((Int32.toInt64 x77), (F74, G75))) else (if x14 = 11 then bv (gX5_gateAt F G  x4) (fun o80 : Option Nat => bv ((if x6 = 0 then 0 else 1) : Int32) (fun v82 : Int32 => br (gX5_order F G  o80 v82 x8) (fun (x87 : Int32) (F84 : jF) (G85 : jG) => ((Int32.toInt64 x87), (F84, G85))))) else (if x14 = 12 then bv (gX5_pumpAt F G  x4) (fun o90 : Option Nat => bv ((if x6 = 0 then 0 else 1) : Int32) (fun v92 : Int32 => br (gX5_switchPump F G  o90 v92 x8) (fun (x97 : Int32) (F94 : jF) (G95 : jG) => ((Int32.toInt64 x97), (F94, G95))))) else (if x14 = 13 then bv (gX5_pumpAt F G  x4) (fun o100 : Option Nat => br (gX5_mendPump F G  o100) (fun (x105 : Int32) (F102 : jF) (G103 : jG) => ((Int32.toInt64 x105), (F102, G103)))) else (if x14 = 14 then bv (gX5_crewAt F G  x4) (fun o108 : Option Nat => br (gX5_sendCrew F G  o108 x6 x8) (fun (x113 : Int32) (F110 : jF) (G111 : jG) => ((Int32.toInt64 x113), (F110, G111)))) else (if x14 = 15 then br (gX1_grant F G  x4 x6) (fun (x118 : Int32) (F115 : jF) (G116 : jG) => ((Int32.toInt64 x118), (F115, G116))) else (if x14 = 16 then bv (gX5_dykeAt F G  x4) (fun o121 : Option Nat => br (gX1_beginWork F G  o121 x6 x8) (fun (x126 : Int32) (F123 : jF) (G124 : jG) => ((Int32.toInt64 x126), (F123, G124)))) else (if x14 = 17 then br (gX5_passHours F G  x4) (fun (x132 : Int32) (F129 : jF) (G130 : jG) => ((Int32.toInt64 x132), (F129, G130))) else (if x14 = 18 then br (gX5_closeYear F G  ) (fun (x138 : Int32) (F135 : jF) (G136 : jG) => ((Int32.toInt64 x138), (F135, G136))) else (0, (F, G))))))))))))))))))))))))))) else (0, (F, G))))
def okX5_act (F : jF) (G : jG) (N : Nat → Int32) (p2 : Int32) : Prop := ((p2 < 0 → True) ∧ (¬ p2 < 0 → (((p2 + 6) ≤ 3078 → (vp_in (p2 + 1) 3078 ∧ bv (N (Int32.toNatClampNeg (p2 + 1))) (fun x4 : Int32 => (vp_in (p2 + 2) 3078 ∧ bv (N (Int32.toNatClampNeg (p2 + 2))) (fun x6 : Int32 => (vp_in (p2 + 3) 3078 ∧ bv (N (Int32.toNatClampNeg (p2 + 3))) (fun x8 : Int32 => (vp_in (p2 + 4) 3078 ∧ bv (N (Int32.toNatClampNeg (p2 + 4))) (fun x10 : Int32 => (vp_in (p2 + 5) 3078 ∧ bv (N (Int32.toNatClampNeg (p2 + 5))) (fun x12 : Int32 => (vp_in p2 3078 ∧ bv (N (Int32.toNatClampNeg p2)) (fun x14 : Int32 => ((x14 = 0 → (lK F ∧ lroom F 8 8)) ∧ (¬ x14 = 0 → ((x14 = 1 → (okX10_layOut F G  x4 x6 x8 x10)) ∧ (¬ x14 = 1 → ((x14 = 2 → (okX10_pourInto F G  x4 x6)) ∧ (¬ x14 = 2 → ((x14 = 3 → bv ((if x8 = 0 then 0 else 1) : Int32) (fun v34 : Int32 => (okX8_build F G  x4 x6 v34))) ∧ (¬ x14 = 3 → ((x14 = 4 → (lK F ∧ lroom F 17 8)) ∧ (¬ x14 = 4 → ((x14 = 5 → (lK F ∧ lroom F 23 8)) ∧ (¬ x14 = 5 → ((x14 = 6 → (lK F ∧ lroom F 32 8)) ∧ (¬ x14 = 6 → ((x14 = 7 → (okX10_layOutside F G  x4 x6 x8)) ∧ (¬ x14 = 7 → ((x14 = 8 → (okX10_tellStorm F G x4 x6 x8)) ∧ (¬ x14 = 8 → ((x14 = 9 → (lK F ∧ lroom F 44 12)) ∧ (¬ x14 = 9 → ((x14 = 10 → True) ∧ (¬ x14 = 10 → ((x14 = 11 → ((okX5_gateAt F G  x4) ∧ bv (gX5_gateAt F G  x4) (fun o80 : Option Nat => bv ((if x6 = 0 then 0 else 1) : Int32) (fun v82 : Int32 => (okX5_order F G  o80 v82 x8))))) ∧ (¬ x14 = 11 → ((x14 = 12 → ((okX5_pumpAt F G  x4) ∧ bv (gX5_pumpAt F G  x4) (fun o90 : Option Nat => bv ((if x6 = 0 then 0 else 1) : Int32) (fun v92 : Int32 => (okX5_switchPump F G  o90 v92 x8))))) ∧ (¬ x14 = 12 → ((x14 = 13 → ((okX5_pumpAt F G  x4) ∧ bv (gX5_pumpAt F G  x4) (fun o100 : Option Nat => (okX5_mendPump F G  o100)))) ∧ (¬ x14 = 13 → ((x14 = 14 → ((okX5_crewAt F G  x4) ∧ bv (gX5_crewAt F G  x4) (fun o108 : Option Nat => (okX5_sendCrew F G  o108 x6 x8)))) ∧ (¬ x14 = 14 → ((x14 = 15 → True) ∧ (¬ x14 = 15 → ((x14 = 16 → ((okX5_dykeAt F G  x4) ∧ bv (gX5_dykeAt F G  x4) (fun o121 : Option Nat => (okX1_beginWork F G  o121 x6 x8)))) ∧ (¬ x14 = 16 → ((x14 = 17 → (okX5_passHours F G  x4)) ∧ (¬ x14 = 17 → ((x14 = 18 → (okX5_closeYear F G  )) ∧ (¬ x14 = 18 → False))))))))))))))))))))))))))))))))))))))))))))))))))) ∧ (¬ (p2 + 6) ≤ 3078 → True))))
abbrev rmX5_act : Room := { frames := 6, cells := 1, slots := 8, locals := 154 }
set_option maxHeartbeats 4000000 in
set_option maxRecDepth 100000 in
theorem qX10_tellStorm (l : Launch) (D : va_G) (yy : Nat → ClassId) (B : Nat → Nat) (F : jF) (G : jG) (sz : Nat) (p1 : Int32) (p2 : Int32) (p3 : Int32) (hok : okX10_tellStorm F G p1 p2 p3) : Met l yX10_tellStorm (Cond.code yX10_tellStorm cX10_tellStorm 5 (some .int) :: wsL_law) rmX10_tellStorm (va_Pc [.ref (B 1), .int p1, .int p2, .int p3] (jP D yy (lW yy B F G) sz)) (va_Qi (fun r (u : (Nat → Nat) × jS) => (r, u.2) = gX10_tellStorm F G p1 p2 p3 ∧ ∀ k, k < 100 → u.1 k = B k) (fun u t => jB D yy (va_A (lW yy B F G) sz) (lW yy u.1 u.2.1 u.2.2) t) (va_A (lW yy B F G) sz)) 1 4 (va_A (lW yy B F G) sz) := by
  generalize hres : gX10_tellStorm F G p1 p2 p3 = RES
  refine jM (vs := [.ref (B 1), .int p1, .int p2, .int p3]) (own := RX10) (by decide) rfl (Nat.le_of_ble_eq_true rfl) ?_
  intro p e s m args below meth c ls Q hQ hargs S hr hlk hinit hB hl
  obtain ⟨hx, hb, hml, hown, hts⟩ := S
  have hl : lv_has ls 5 [(0, .ref (B 1)), (1, .int p1), (2, .int p2), (3, .int p3)] := hl
  obtain ⟨hsz, hP, hK, hD0⟩ := hB
  subst hsz
  have hD := hD0.self (sz := s.heap.size)
  generalize hZ : va_A (lW yy B F G) s.heap.size = Z at hD hQ
  have hA : ∀ q : Nat, s.heap.size ≤ q → Z q := fun q h => by rw [← hZ]; exact Or.inr h
  obtain ⟨H, hH⟩ : ∃ z, z = s.heap := ⟨_, rfl⟩
  obtain ⟨locs, hlocs⟩ : ∃ z : List Loc, z = [] := ⟨_, rfl⟩
  have hS : va_S Z s.heap H locs := by rw [hH, hlocs]; exact va_S.rf
  rw [← hH] at hP
  suffices hgo : W p l e rmX10_tellStorm s m args below meth c H locs 0 0 Q (F0 m 0 ls []) by rw [hH, hlocs] at hgo; exact hgo
  unfold gX10_tellStorm at hres
  unfold okX10_tellStorm at hok
  refine lv_aload_n hx hb (dd_of dX10_tellStorm_0 0 rfl) rfl (lv_at hl 0 rfl) ?_
  refine va_get (D := D) (cl := vwCl) (tys := jT yy) (ci := 10) (v := .ref (B 9)) (C := RX10) (T := TX10) (N := 8) hx hb hts (fun w h => List.mem_cons_of_mem _ (inlX10 w h)) hown hK hP 1 rfl rfl 2 (by decide) (jw hts gw54) (fun _ h9 => h9) rfl (dd_of dX10_tellStorm_0 1 rfl) ?_
  refine lv_iload_n hx hb (dd_of dX10_tellStorm_0 2 rfl) rfl (lv_at hl 1 rfl) ?_
  refine lv_iload_n hx hb (dd_of dX10_tellStorm_0 3 rfl) rfl (lv_at hl 2 rfl) ?_
  refine lv_iload_n hx hb (dd_of dX10_tellStorm_0 4 rfl) rfl (lv_at hl 3 rfl) ?_
  have hk9 := hok.1
  replace hok := hok.2
  refine jm2_i (As := [.int p1, .int p2, .int p3]) (rest := []) (w := lW yy B F G) (w1 := fun u : (Nat → Nat) × jS => lW yy u.1 u.2.1 u.2.2) (D := D) (yy := yy) ⟨hx, hb, hml, hown, hts⟩ (qX6_addStorm l D yy B F G H.size p1 p2 p3 hk9.1 hk9.2) (cwV 3 hts (jgV gw316 gw317 gw318 gw53 gw319) rfl rfl rfl (by decide +kernel) ⟨Nat.le_of_ble_eq_true rfl, Nat.le_of_ble_eq_true rfl⟩) hP hK hD hS hA (va_recv hK hP (ci := 6) (q0 := 4) rfl rfl) rfl hl.1 rfl (Nat.le_of_ble_eq_true rfl) (dd_of dX10_tellStorm_0 5 rfl) ⟨Nat.le_of_ble_eq_true rfl, Nat.le_of_ble_eq_true rfl⟩ (fun x1 u9 H locs w4 hP hD hS => ?_)
  obtain ⟨B1, F2, G3⟩ := u9
  obtain ⟨w4, hB1⟩ := w4
  have hB1 : ∀ k, k < 100 → B1 k = B k := hB1
  have hP : va_P D vwCl (lW yy B1 F2 G3) H := hP
  have hD : va_D Z (lW yy B1 F2 G3) := hD
  have hl : lv_has ls 5 [(0, .ref (B1 1)), (1, .int p1), (2, .int p2), (3, .int p3)] := by rw [hB1 1 (by omega)]; exact hl
  replace hres := brE w4 hres
  replace hok := brO w4 hok
  refine lv_istore (lv' := [(4, .int x1), (0, .ref (B1 1)), (1, .int p1), (2, .int p2), (3, .int p3)]) hx hb (dd_of dX10_tellStorm_0 6 rfl) hl (by decide) rfl (fun ls hl => ?_)
  refine lv_aload_n hx hb (dd_of dX10_tellStorm_0 7 rfl) rfl (lv_at hl 1 rfl) ?_
  refine lv_aload_n hx hb (dd_of dX10_tellStorm_0 8 rfl) rfl (lv_at hl 1 rfl) ?_
  refine va_get (D := D) (cl := vwCl) (tys := jT yy) (ci := 10) (v := .ref (B1 9)) (C := RX10) (T := TX10) (N := 8) hx hb hts (fun w h => List.mem_cons_of_mem _ (inlX10 w h)) hown hK hP 1 rfl rfl 2 (by decide) (jw hts gw54) (fun _ h9 => h9) rfl (dd_of dX10_tellStorm_0 9 rfl) ?_
  refine lv_aload_n hx hb (dd_of dX10_tellStorm_0 10 rfl) rfl (lv_at hl 1 rfl) ?_
  refine va_get (D := D) (cl := vwCl) (tys := jT yy) (ci := 10) (v := .int (F2 0 0)) (C := RX10) (T := TX10) (N := 8) hx hb hts (fun w h => List.mem_cons_of_mem _ (inlX10 w h)) hown hK hP 1 rfl rfl 6 (by decide) (jw hts gw306) (fun _ h9 => h9) rfl (dd_of dX10_tellStorm_0 11 rfl) ?_
  have h5 := hok
  refine jc_l (As := [.int (F2 0 0)]) (rest := [.ref (B1 1)]) (w := (lW yy B1 F2 G3)) (D := D) (yy := yy) ⟨hx, hb, hml, hown, hts⟩ (qX6_seaAt l D yy B1 F2 G3  (F2 0 0) h5) (cwV 1 hts (jgV gw66 gw67 gw68 gw53 gw69) rfl rfl rfl (by decide +kernel) ⟨Nat.le_of_ble_eq_true rfl, Nat.le_of_ble_eq_true rfl⟩) hP hK (va_recv hK hP (ci := 6) (q0 := 4) rfl rfl) rfl hl.1 rfl (Nat.le_of_ble_eq_true rfl) (dd_of dX10_tellStorm_0 12 rfl) ⟨Nat.le_of_ble_eq_true rfl, Nat.le_of_ble_eq_true rfl⟩ (fun x6 ex6 => ?_)
  replace hres := bvE ex6 hres
  refine va_put (D := D) (cl := vwCl) (tys := jT yy) (ci := 10) (v := .long x6) (ty := .long) (C := RX10) (T := TX10) (N := 8) hx hb hts (fun w h => List.mem_cons_of_mem _ (inlX10 w h)) tyX10 tyX10_ok nmX10 hown hK hP hD hS 1 rfl rfl 7 (by decide) (jw hts gw58) (fun _ h9 => h9) rfl (by decide +kernel) rfl rfl (Nat.le_of_ble_eq_true rfl) (dd_of dX10_tellStorm_0 13 rfl) (fun H locs hP hD hS => ?_)
  obtain ⟨G7, e8⟩ : ∃ z : jG, z = u2 G3 69 0 x6 := ⟨_, rfl⟩
  have hP : va_P D vwCl (lW yy B1 F2 G7) H := by rw [e8]; exact hP
  have hD : va_D Z (lW yy B1 F2 G7) := by rw [e8]; exact hD
  replace hres := bvE e8 hres
  refine lv_iload hx hb (dd_of dX10_tellStorm_0 14 rfl) (lv_at hl 0 rfl) ?_
  refine W.widen (k := 1) (n := 4) (Nat.le_of_ble_eq_true rfl) (Nat.le_of_ble_eq_true rfl) ?_
  subst hQ
  exact W.iret (v := x1) hx hb hr (fun t ht hW => ⟨⟨x1, (B1, (F2, G7)), rfl, ⟨hres, hB1⟩, by rw [ht]; exact hP, va_K.moved hW.alike hK, hD⟩, hS.F ht⟩) hS.2.2 (dd_of dX10_tellStorm_0 15 rfl) hlk
set_option maxHeartbeats 4000000 in
set_option maxRecDepth 100000 in
theorem qX5_act (l : Launch) (D : va_G) (yy : Nat → ClassId) (B : Nat → Nat) (F : jF) (G : jG) (sz : Nat) (an : Nat) (N : Nat → Int32) (p2 : Int32) (hok : okX5_act F G N p2) : Met l yX5_act (Cond.code yX5_act cX5_act 8 (some .long) :: wsL_law) rmX5_act (va_Pc [.ref (B 0), .ref an, .int p2] (jN D yy (lW yy B F G) sz an N)) (va_Ql (fun r (u : (Nat → Nat) × jS) => (r, u.2) = gX5_act F G N p2 ∧ ∀ k, k < 100 → u.1 k = B k) (fun u t => jB D yy (va_A (lW yy B F G) sz) (lW yy u.1 u.2.1 u.2.2) t) (va_A (lW yy B F G) sz)) 1 8 (va_A (lW yy B F G) sz) := by
  generalize hres : gX5_act F G N p2 = RES
  refine jM (vs := [.ref (B 0), .ref an, .int p2]) (own := RX5) (by decide) rfl (Nat.le_of_ble_eq_true rfl) ?_
  intro p e s m args below meth c ls Q hQ hargs S hr hlk hinit hB hl
  obtain ⟨hx, hb, hml, hown, hts⟩ := S
  have hl : lv_has ls 8 [(0, .ref (B 0)), (1, .ref an), (2, .int p2)] := hl
  obtain ⟨⟨hsz, hP, hK, hD0⟩, hN⟩ := hB
  subst hsz
  have hD := hD0.self (sz := s.heap.size)
  generalize hZ : va_A (lW yy B F G) s.heap.size = Z at hD hQ
  have hA : ∀ q : Nat, s.heap.size ≤ q → Z q := fun q h => by rw [← hZ]; exact Or.inr h
  obtain ⟨H, hH⟩ : ∃ z, z = s.heap := ⟨_, rfl⟩
  obtain ⟨locs, hlocs⟩ : ∃ z : List Loc, z = [] := ⟨_, rfl⟩
  have hS : va_S Z s.heap H locs := by rw [hH, hlocs]; exact va_S.rf
  rw [← hH] at hP hN
  suffices hgo : W p l e rmX5_act s m args below meth c H locs 0 0 Q (F0 m 0 ls []) by rw [hH, hlocs] at hgo; exact hgo
  unfold gX5_act at hres
  unfold okX5_act at hok
  refine lv_iload_n hx hb (dd_of dX5_act_0 0 rfl) rfl (lv_at hl 2 rfl) ?_
  refine lv_if_lt (tgt := 13) hx hb (dd_of dX5_act_0 1 rfl) (by decide) (fun c1 => ?_) (fun c1 => ?_)
  · replace hres := ifE c1 hres
    refine lv_lconst (v := 0) hx hb (dd_of dX5_act_0 8 rfl) (by decide) ?_
    refine W.widen (k := 1) (n := 8) (Nat.le_of_ble_eq_true rfl) (Nat.le_of_ble_eq_true rfl) ?_
    subst hQ
    exact W.lret (v := 0) hx hb hr (fun t ht hW => ⟨⟨0, (B, (F, G)), rfl, ⟨hres, (fun _ _ => rfl)⟩, by rw [ht]; exact hP, va_K.moved hW.alike hK, hD⟩, hS.F ht⟩) hS.2.2 (dd_of dX5_act_0 9 rfl) hlk
  · replace hres := ifN c1 hres
    replace hok := hok.2 c1
    refine lv_iload_n hx hb (dd_of dX5_act_0 2 rfl) rfl (lv_at hl 2 rfl) ?_
    refine lv_bipush (v := 6) hx hb (dd_of dX5_act_0 3 rfl) (by decide) ?_
    refine lv_iadd hx hb (dd_of dX5_act_0 4 rfl) ?_
    refine lv_aload_n hx hb (dd_of dX5_act_0 5 rfl) rfl (lv_at hl 1 rfl) ?_
    refine va_alen (v := 3078) hx hb hK hN 0 0 rfl rfl rfl (dd_of dX5_act_0 6 rfl) ?_
    refine lv_icmp_le (tgt := 15) hx hb (dd_of dX5_act_0 7 rfl) (by decide) (fun c2 => ?_) (fun c2 => ?_)
    · replace hres := ifE c2 hres
      replace hok := hok.1 c2
      refine lv_aload_n hx hb (dd_of dX5_act_0 10 rfl) rfl (lv_at hl 1 rfl) ?_
      refine lv_iload_n hx hb (dd_of dX5_act_0 11 rfl) rfl (lv_at hl 2 rfl) ?_
      refine lv_iconst (v := 1) hx hb (dd_of dX5_act_0 12 rfl) (by decide) ?_
      refine lv_iadd hx hb (dd_of dX5_act_0 13 rfl) ?_
      have h3 := hok.1
      replace hok := hok.2
      refine va_iald hx hb hK hN 0 0 rfl rfl h3 (dd_of dX5_act_0 14 rfl) ?_
      refine lv_topi (fun x4 ex4 => ?_)
      replace hres := bvE ex4 hres
      replace hok := bvO ex4 hok
      refine lv_istore_n (lv' := [(3, .int x4), (0, .ref (B 0)), (1, .ref an), (2, .int p2)]) hx hb (dd_of dX5_act_0 15 rfl) rfl hl (by decide) rfl (fun ls hl => ?_)
      refine lv_aload_n hx hb (dd_of dX5_act_0 16 rfl) rfl (lv_at hl 2 rfl) ?_
      refine lv_iload_n hx hb (dd_of dX5_act_0 17 rfl) rfl (lv_at hl 3 rfl) ?_
      refine lv_iconst (v := 2) hx hb (dd_of dX5_act_0 18 rfl) (by decide) ?_
      refine lv_iadd hx hb (dd_of dX5_act_0 19 rfl) ?_
      have h5 := hok.1
      replace hok := hok.2
      refine va_iald hx hb hK hN 0 0 rfl rfl h5 (dd_of dX5_act_0 20 rfl) ?_
      refine lv_topi (fun x6 ex6 => ?_)
      replace hres := bvE ex6 hres
      replace hok := bvO ex6 hok
      refine lv_istore (lv' := [(4, .int x6), (3, .int x4), (0, .ref (B 0)), (1, .ref an), (2, .int p2)]) hx hb (dd_of dX5_act_0 21 rfl) hl (by decide) rfl (fun ls hl => ?_)
      refine lv_aload_n hx hb (dd_of dX5_act_0 22 rfl) rfl (lv_at hl 3 rfl) ?_
      refine lv_iload_n hx hb (dd_of dX5_act_0 23 rfl) rfl (lv_at hl 4 rfl) ?_
      refine lv_iconst (v := 3) hx hb (dd_of dX5_act_0 24 rfl) (by decide) ?_
      refine lv_iadd hx hb (dd_of dX5_act_0 25 rfl) ?_
      have h7 := hok.1
      replace hok := hok.2
      refine va_iald hx hb hK hN 0 0 rfl rfl h7 (dd_of dX5_act_0 26 rfl) ?_
      refine lv_topi (fun x8 ex8 => ?_)
      replace hres := bvE ex8 hres
      replace hok := bvO ex8 hok
      refine lv_istore (lv' := [(5, .int x8), (4, .int x6), (3, .int x4), (0, .ref (B 0)), (1, .ref an), (2, .int p2)]) hx hb (dd_of dX5_act_0 27 rfl) hl (by decide) rfl (fun ls hl => ?_)
      refine lv_aload_n hx hb (dd_of dX5_act_0 28 rfl) rfl (lv_at hl 4 rfl) ?_
      refine lv_iload_n hx hb (dd_of dX5_act_0 29 rfl) rfl (lv_at hl 5 rfl) ?_
      refine lv_iconst (v := 4) hx hb (dd_of dX5_act_0 30 rfl) (by decide) ?_
      refine lv_iadd hx hb (dd_of dX5_act_0 31 rfl) ?_
      have h9 := hok.1
      replace hok := hok.2
      refine va_iald hx hb hK hN 0 0 rfl rfl h9 (dd_of dX5_act_0 32 rfl) ?_
      refine lv_topi (fun x10 ex10 => ?_)
      replace hres := bvE ex10 hres
      replace hok := bvO ex10 hok
      refine lv_istore (lv' := [(6, .int x10), (5, .int x8), (4, .int x6), (3, .int x4), (0, .ref (B 0)), (1, .ref an), (2, .int p2)]) hx hb (dd_of dX5_act_0 33 rfl) hl (by decide) rfl (fun ls hl => ?_)
      refine lv_aload_n hx hb (dd_of dX5_act_0 34 rfl) rfl (lv_at hl 5 rfl) ?_
      refine lv_iload_n hx hb (dd_of dX5_act_0 35 rfl) rfl (lv_at hl 6 rfl) ?_
      refine lv_iconst (v := 5) hx hb (dd_of dX5_act_0 36 rfl) (by decide) ?_
      refine lv_iadd hx hb (dd_of dX5_act_0 37 rfl) ?_
      have h11 := hok.1
      replace hok := hok.2
      refine va_iald hx hb hK hN 0 0 rfl rfl h11 (dd_of dX5_act_0 38 rfl) ?_
      refine lv_topi (fun x12 ex12 => ?_)
      replace hres := bvE ex12 hres
      replace hok := bvO ex12 hok
      refine lv_istore (lv' := [(7, .int x12), (6, .int x10), (5, .int x8), (4, .int x6), (3, .int x4), (0, .ref (B 0)), (1, .ref an), (2, .int p2)]) hx hb (dd_of dX5_act_0 39 rfl) hl (by decide) rfl (fun ls hl => ?_)
      refine lv_aload_n hx hb (dd_of dX5_act_1 0 rfl) rfl (lv_at hl 6 rfl) ?_
      refine lv_iload_n hx hb (dd_of dX5_act_1 1 rfl) rfl (lv_at hl 7 rfl) ?_
      have h13 := hok.1
      replace hok := hok.2
      refine va_iald hx hb hK hN 0 0 rfl rfl h13 (dd_of dX5_act_1 2 rfl) ?_
      refine lv_topi (fun x14 ex14 => ?_)
      replace hres := bvE ex14 hres
      replace hok := bvO ex14 hok
      refine jcase (x14 = 0) (fun c15 => ?_) (fun c15 => ?_)
      · replace hres := ifE c15 hres
        replace hok := hok.1 c15
        refine lv_tableIn (tgt := 144) (off := 92) hx hb (dd_of dX5_act_1 3 rfl) (by rw [c15]; decide) (by rw [c15]; decide) (by rw [c15]; rfl) (by decide) ?_
        refine lv_aload_n hx hb (dd_of dX5_act_1 4 rfl) rfl (lv_at hl 5 rfl) ?_
        refine va_get (D := D) (cl := vwCl) (tys := jT yy) (ci := 5) (v := .ref (B 1)) (C := RX5) (T := TX5) (N := 10) hx hb hts (fun w h => List.mem_cons_of_mem _ (inlX5 w h)) hown hK hP 0 rfl rfl 0 (by decide) (jw hts gw27) (fun _ h9 => h9) rfl (dd_of dX5_act_1 5 rfl) ?_
        refine lv_iload_n hx hb (dd_of dX5_act_1 6 rfl) rfl (lv_at hl 4 rfl) ?_
        refine lv_iload hx hb (dd_of dX5_act_1 7 rfl) (lv_at hl 3 rfl) ?_
        have hk9 := hok
        refine jm2_i (As := [.int x4, .int x6]) (rest := []) (w := lW yy B F G) (w1 := fun u : (Nat → Nat) × jS => lW yy u.1 u.2.1 u.2.2) (D := D) (yy := yy) ⟨hx, hb, hml, hown, hts⟩ (qX10_newBasin l D yy B F G H.size x4 x6 hk9.1 hk9.2) (cwV 2 hts (jgV gw209 gw210 gw211 gw26 gw212) rfl rfl rfl (by decide +kernel) ⟨Nat.le_of_ble_eq_true rfl, Nat.le_of_ble_eq_true rfl⟩) hP hK hD hS hA (va_recv hK hP (ci := 10) (q0 := 1) rfl rfl) rfl hl.1 rfl (Nat.le_of_ble_eq_true rfl) (dd_of dX5_act_1 8 rfl) ⟨Nat.le_of_ble_eq_true rfl, Nat.le_of_ble_eq_true rfl⟩ (fun x16 u9 H locs w19 hP hD hS => ?_)
        obtain ⟨B1, F17, G18⟩ := u9
        obtain ⟨w19, hB1⟩ := w19
        have hB1 : ∀ k, k < 100 → B1 k = B k := hB1
        have hP : va_P D vwCl (lW yy B1 F17 G18) H := hP
        have hD : va_D Z (lW yy B1 F17 G18) := hD
        replace hres := brE w19 hres
        refine lv_i2l (v := (Int32.toInt64 x16)) hx hb (dd_of dX5_act_1 9 rfl) rfl ?_
        refine W.widen (k := 1) (n := 8) (Nat.le_of_ble_eq_true rfl) (Nat.le_of_ble_eq_true rfl) ?_
        subst hQ
        exact W.lret (v := (Int32.toInt64 x16)) hx hb hr (fun t ht hW => ⟨⟨(Int32.toInt64 x16), (B1, (F17, G18)), rfl, ⟨hres, hB1⟩, by rw [ht]; exact hP, va_K.moved hW.alike hK, hD⟩, hS.F ht⟩) hS.2.2 (dd_of dX5_act_1 10 rfl) hlk
      · replace hres := ifN c15 hres
        replace hok := hok.2 c15
        refine jcase (x14 = 1) (fun c20 => ?_) (fun c20 => ?_)
        · replace hres := ifE c20 hres
          replace hok := hok.1 c20
          refine lv_tableIn (tgt := 156) (off := 104) hx hb (dd_of dX5_act_1 3 rfl) (by rw [c20]; decide) (by rw [c20]; decide) (by rw [c20]; rfl) (by decide) ?_
          refine lv_aload_n hx hb (dd_of dX5_act_1 11 rfl) rfl (lv_at hl 5 rfl) ?_
          refine va_get (D := D) (cl := vwCl) (tys := jT yy) (ci := 5) (v := .ref (B 1)) (C := RX5) (T := TX5) (N := 10) hx hb hts (fun w h => List.mem_cons_of_mem _ (inlX5 w h)) hown hK hP 0 rfl rfl 0 (by decide) (jw hts gw27) (fun _ h9 => h9) rfl (dd_of dX5_act_1 12 rfl) ?_
          refine lv_iload_n hx hb (dd_of dX5_act_1 13 rfl) rfl (lv_at hl 4 rfl) ?_
          refine lv_iload hx hb (dd_of dX5_act_1 14 rfl) (lv_at hl 3 rfl) ?_
          refine lv_iload hx hb (dd_of dX5_act_1 15 rfl) (lv_at hl 2 rfl) ?_
          refine lv_iload hx hb (dd_of dX5_act_1 16 rfl) (lv_at hl 1 rfl) ?_
          have h21 := hok
          refine jm_i (As := [.int x4, .int x6, .int x8, .int x10]) (rest := []) (w := (lW yy B F G)) (w1 := fun u : jS => (lW yy B u.1 u.2)) (D := D) (yy := yy) ⟨hx, hb, hml, hown, hts⟩ (qX10_layOut l D yy B F G H.size  x4 x6 x8 x10 h21) (cwV 4 hts (jgV gw223 gw224 gw225 gw26 gw226) rfl rfl rfl (by decide +kernel) ⟨Nat.le_of_ble_eq_true rfl, Nat.le_of_ble_eq_true rfl⟩) hP hK hD hS hA (va_recv hK hP (ci := 10) (q0 := 1) rfl rfl) rfl hl.1 rfl (Nat.le_of_ble_eq_true rfl) (dd_of dX5_act_1 17 rfl) ⟨Nat.zero_le _, Nat.zero_le _⟩ (fun x25 u9 H locs w24 hP hD hS => ?_)
          obtain ⟨F22, G23⟩ := u9
          have hP : va_P D vwCl (lW yy B F22 G23) H := hP
          have hD : va_D Z (lW yy B F22 G23) := hD
          replace hres := brE w24 hres
          refine lv_i2l (v := (Int32.toInt64 x25)) hx hb (dd_of dX5_act_1 18 rfl) rfl ?_
          refine W.widen (k := 1) (n := 8) (Nat.le_of_ble_eq_true rfl) (Nat.le_of_ble_eq_true rfl) ?_
          subst hQ
          exact W.lret (v := (Int32.toInt64 x25)) hx hb hr (fun t ht hW => ⟨⟨(Int32.toInt64 x25), (B, (F22, G23)), rfl, ⟨hres, (fun _ _ => rfl)⟩, by rw [ht]; exact hP, va_K.moved hW.alike hK, hD⟩, hS.F ht⟩) hS.2.2 (dd_of dX5_act_1 19 rfl) hlk
        · replace hres := ifN c20 hres
          replace hok := hok.2 c20
          refine jcase (x14 = 2) (fun c26 => ?_) (fun c26 => ?_)
          · replace hres := ifE c26 hres
            replace hok := hok.1 c26
            refine lv_tableIn (tgt := 172) (off := 120) hx hb (dd_of dX5_act_1 3 rfl) (by rw [c26]; decide) (by rw [c26]; decide) (by rw [c26]; rfl) (by decide) ?_
            refine lv_aload_n hx hb (dd_of dX5_act_1 20 rfl) rfl (lv_at hl 5 rfl) ?_
            refine va_get (D := D) (cl := vwCl) (tys := jT yy) (ci := 5) (v := .ref (B 1)) (C := RX5) (T := TX5) (N := 10) hx hb hts (fun w h => List.mem_cons_of_mem _ (inlX5 w h)) hown hK hP 0 rfl rfl 0 (by decide) (jw hts gw27) (fun _ h9 => h9) rfl (dd_of dX5_act_1 21 rfl) ?_
            refine lv_iload_n hx hb (dd_of dX5_act_1 22 rfl) rfl (lv_at hl 4 rfl) ?_
            refine lv_iload hx hb (dd_of dX5_act_1 23 rfl) (lv_at hl 3 rfl) ?_
            have h27 := hok
            refine jm_l (As := [.int x4, .int x6]) (rest := []) (w := (lW yy B F G)) (w1 := fun u : jS => (lW yy B u.1 u.2)) (D := D) (yy := yy) ⟨hx, hb, hml, hown, hts⟩ (qX10_pourInto l D yy B F G H.size  x4 x6 h27) (cwV 2 hts (jgV gw234 gw235 gw236 gw26 gw237) rfl rfl rfl (by decide +kernel) ⟨Nat.le_of_ble_eq_true rfl, Nat.le_of_ble_eq_true rfl⟩) hP hK hD hS hA (va_recv hK hP (ci := 10) (q0 := 1) rfl rfl) rfl hl.1 rfl (Nat.le_of_ble_eq_true rfl) (dd_of dX5_act_1 24 rfl) ⟨Nat.zero_le _, Nat.zero_le _⟩ (fun x31 u9 H locs w30 hP hD hS => ?_)
            obtain ⟨F28, G29⟩ := u9
            have hP : va_P D vwCl (lW yy B F28 G29) H := hP
            have hD : va_D Z (lW yy B F28 G29) := hD
            replace hres := brE w30 hres
            refine W.widen (k := 1) (n := 8) (Nat.le_of_ble_eq_true rfl) (Nat.le_of_ble_eq_true rfl) ?_
            subst hQ
            exact W.lret (v := x31) hx hb hr (fun t ht hW => ⟨⟨x31, (B, (F28, G29)), rfl, ⟨hres, (fun _ _ => rfl)⟩, by rw [ht]; exact hP, va_K.moved hW.alike hK, hD⟩, hS.F ht⟩) hS.2.2 (dd_of dX5_act_1 25 rfl) hlk
          · replace hres := ifN c26 hres
            replace hok := hok.2 c26
            refine jcase (x14 = 3) (fun c32 => ?_) (fun c32 => ?_)
            · replace hres := ifE c32 hres
              replace hok := hok.1 c32
              refine lv_tableIn (tgt := 183) (off := 131) hx hb (dd_of dX5_act_1 3 rfl) (by rw [c32]; decide) (by rw [c32]; decide) (by rw [c32]; rfl) (by decide) ?_
              refine lv_aload_n hx hb (dd_of dX5_act_1 26 rfl) rfl (lv_at hl 5 rfl) ?_
              refine va_get (D := D) (cl := vwCl) (tys := jT yy) (ci := 5) (v := .ref (B 7)) (C := RX5) (T := TX5) (N := 10) hx hb hts (fun w h => List.mem_cons_of_mem _ (inlX5 w h)) hown hK hP 0 rfl rfl 9 (by decide) (jw hts gw43) (fun _ h9 => h9) rfl (dd_of dX5_act_1 27 rfl) ?_
              refine lv_iload_n hx hb (dd_of dX5_act_1 28 rfl) rfl (lv_at hl 4 rfl) ?_
              refine lv_iload hx hb (dd_of dX5_act_1 29 rfl) (lv_at hl 3 rfl) ?_
              refine lv_iload hx hb (dd_of dX5_act_1 30 rfl) (lv_at hl 2 rfl) ?_
              obtain ⟨z140, q139⟩ : ∃ z : Int32, (if x8 = 0 then 0 else 1) = z := ⟨_, rfl⟩
              refine jn_i (ls := ls) (v := z140) 200 [.int x6, .int x4, .ref (B 7)] (fun v34 ev34 => ?_) (fun K141 => ?_)
              · replace hres := bvE (ev34.trans q139.symm) hres
                replace hok := bvO (ev34.trans q139.symm) hok
                have h35 := hok
                refine jm_i (As := [.int x4, .int x6, .int v34]) (rest := []) (w := (lW yy B F G)) (w1 := fun u : jS => (lW yy B u.1 u.2)) (D := D) (yy := yy) ⟨hx, hb, hml, hown, hts⟩ (qX8_build l D yy B F G H.size  x4 x6 v34 h35) (cwV 3 hts (jgV gw247 gw248 gw249 gw42 gw250) rfl rfl rfl (by decide +kernel) ⟨Nat.le_of_ble_eq_true rfl, Nat.le_of_ble_eq_true rfl⟩) hP hK hD hS hA (va_recv hK hP (ci := 8) (q0 := 3) rfl rfl) rfl hl.1 rfl (Nat.le_of_ble_eq_true rfl) (dd_of dX5_act_1 35 rfl) ⟨Nat.zero_le _, Nat.zero_le _⟩ (fun x39 u9 H locs w38 hP hD hS => ?_)
                obtain ⟨F36, G37⟩ := u9
                have hP : va_P D vwCl (lW yy B F36 G37) H := hP
                have hD : va_D Z (lW yy B F36 G37) := hD
                replace hres := brE w38 hres
                obtain ⟨z143, q142⟩ : ∃ z : Int64, (if x39 = 0 then 0 else 1) = z := ⟨_, rfl⟩
                refine jn_l (ls := ls) (v := z143) 211 [] (fun v41 ev41 => ?_) (fun K144 => ?_)
                · replace hres := bvE (ev41.trans q142.symm) hres
                  refine W.widen (k := 1) (n := 8) (Nat.le_of_ble_eq_true rfl) (Nat.le_of_ble_eq_true rfl) ?_
                  subst hQ
                  exact W.lret (v := v41) hx hb hr (fun t ht hW => ⟨⟨v41, (B, (F36, G37)), rfl, ⟨hres, (fun _ _ => rfl)⟩, by rw [ht]; exact hP, va_K.moved hW.alike hK, hD⟩, hS.F ht⟩) hS.2.2 (dd_of dX5_act_2 0 rfl) hlk
                · skip
                  refine lv_if_eq (tgt := 210) hx hb (dd_of dX5_act_1 36 rfl) (by decide) (fun c40 => ?_) (fun c40 => ?_)
                  · replace q142 := ifE c40 q142
                    refine lv_lconst (v := 0) hx hb (dd_of dX5_act_1 39 rfl) (by decide) ?_
                    exact K144 _ q142
                  · replace q142 := ifN c40 q142
                    refine lv_lconst (v := 1) hx hb (dd_of dX5_act_1 37 rfl) (by decide) ?_
                    refine lv_goto (tgt := 211) hx hb (dd_of dX5_act_1 38 rfl) (by decide) ?_
                    exact K144 _ q142
              · skip
                refine lv_if_eq (tgt := 199) hx hb (dd_of dX5_act_1 31 rfl) (by decide) (fun c33 => ?_) (fun c33 => ?_)
                · replace q139 := ifE c33 q139
                  refine lv_iconst (v := 0) hx hb (dd_of dX5_act_1 34 rfl) (by decide) ?_
                  exact K141 _ q139
                · replace q139 := ifN c33 q139
                  refine lv_iconst (v := 1) hx hb (dd_of dX5_act_1 32 rfl) (by decide) ?_
                  refine lv_goto (tgt := 200) hx hb (dd_of dX5_act_1 33 rfl) (by decide) ?_
                  exact K141 _ q139
            · replace hres := ifN c32 hres
              replace hok := hok.2 c32
              refine jcase (x14 = 4) (fun c42 => ?_) (fun c42 => ?_)
              · replace hres := ifE c42 hres
                replace hok := hok.1 c42
                refine lv_tableIn (tgt := 212) (off := 160) hx hb (dd_of dX5_act_1 3 rfl) (by rw [c42]; decide) (by rw [c42]; decide) (by rw [c42]; rfl) (by decide) ?_
                refine lv_aload_n hx hb (dd_of dX5_act_2 1 rfl) rfl (lv_at hl 5 rfl) ?_
                refine lv_iload_n hx hb (dd_of dX5_act_2 2 rfl) rfl (lv_at hl 4 rfl) ?_
                refine lv_iload hx hb (dd_of dX5_act_2 3 rfl) (lv_at hl 3 rfl) ?_
                refine lv_iload hx hb (dd_of dX5_act_2 4 rfl) (lv_at hl 2 rfl) ?_
                refine lv_iload hx hb (dd_of dX5_act_2 5 rfl) (lv_at hl 1 rfl) ?_
                have hk9 := hok
                refine jm2_i (As := [.int x4, .int x6, .int x8, .int x10]) (rest := []) (w := lW yy B F G) (w1 := fun u : (Nat → Nat) × jS => lW yy u.1 u.2.1 u.2.2) (D := D) (yy := yy) ⟨hx, hb, hml, hown, hts⟩ (qX5_newGate l D yy B F G H.size x4 x6 x8 x10 hk9.1 hk9.2) (cwV 4 hts (jgV gw259 gw260 gw261 gw15 gw262) rfl rfl rfl (by decide +kernel) ⟨Nat.le_of_ble_eq_true rfl, Nat.le_of_ble_eq_true rfl⟩) hP hK hD hS hA (va_recv hK hP (ci := 5) (q0 := 0) rfl rfl) rfl hl.1 rfl (Nat.le_of_ble_eq_true rfl) (dd_of dX5_act_2 6 rfl) ⟨Nat.le_of_ble_eq_true rfl, Nat.le_of_ble_eq_true rfl⟩ (fun x43 u9 H locs w46 hP hD hS => ?_)
                obtain ⟨B1, F44, G45⟩ := u9
                obtain ⟨w46, hB1⟩ := w46
                have hB1 : ∀ k, k < 100 → B1 k = B k := hB1
                have hP : va_P D vwCl (lW yy B1 F44 G45) H := hP
                have hD : va_D Z (lW yy B1 F44 G45) := hD
                replace hres := brE w46 hres
                refine lv_i2l (v := (Int32.toInt64 x43)) hx hb (dd_of dX5_act_2 7 rfl) rfl ?_
                refine W.widen (k := 1) (n := 8) (Nat.le_of_ble_eq_true rfl) (Nat.le_of_ble_eq_true rfl) ?_
                subst hQ
                exact W.lret (v := (Int32.toInt64 x43)) hx hb hr (fun t ht hW => ⟨⟨(Int32.toInt64 x43), (B1, (F44, G45)), rfl, ⟨hres, hB1⟩, by rw [ht]; exact hP, va_K.moved hW.alike hK, hD⟩, hS.F ht⟩) hS.2.2 (dd_of dX5_act_2 8 rfl) hlk
              · replace hres := ifN c42 hres
                replace hok := hok.2 c42
                refine jcase (x14 = 5) (fun c47 => ?_) (fun c47 => ?_)
                · replace hres := ifE c47 hres
                  replace hok := hok.1 c47
                  refine lv_tableIn (tgt := 225) (off := 173) hx hb (dd_of dX5_act_1 3 rfl) (by rw [c47]; decide) (by rw [c47]; decide) (by rw [c47]; rfl) (by decide) ?_
                  refine lv_aload_n hx hb (dd_of dX5_act_2 9 rfl) rfl (lv_at hl 5 rfl) ?_
                  have hk9 := hok
                  refine va_new (ci := 7) (fs := [.int 0, .int 0, .int 0, .int 0, .int 0, .int 0, .int 0, .int 0]) (C := RX7) (T := TX7) (N := 8) hx hb hts (fun w h => List.mem_cons_of_mem _ (inlX7 w h)) tyX7 tyX7_ok hown (jw hts gw34) (jw hts gw204) (jw hts gw205) hK hP hD hS hA rfl (fun j hj => by rcases (show j = 0 ∨ j = 1 ∨ j = 2 ∨ j = 3 ∨ j = 4 ∨ j = 5 ∨ j = 6 ∨ j = 7 by omega) with rfl | rfl | rfl | rfl | rfl | rfl | rfl | rfl <;> rfl) (Nat.le_of_ble_eq_true rfl) (Nat.le_of_ble_eq_true rfl) (dd_of dX5_act_2 10 rfl) (fun q H hP hD hS => ?_)
                  refine lv_dup hx hb (dd_of dX5_act_2 11 rfl) rfl ?_
                  refine lv_iload_n hx hb (dd_of dX5_act_2 12 rfl) rfl (lv_at hl 4 rfl) ?_
                  refine lv_iload hx hb (dd_of dX5_act_2 13 rfl) (lv_at hl 3 rfl) ?_
                  refine lv_iload hx hb (dd_of dX5_act_2 14 rfl) (lv_at hl 2 rfl) ?_
                  refine lv_iload hx hb (dd_of dX5_act_2 15 rfl) (lv_at hl 1 rfl) ?_
                  refine lv_iload hx hb (dd_of dX5_act_2 16 rfl) (lv_at hl 0 rfl) ?_
                  refine jx_p (X := lW yy B F G) (Cw := [(q, .inr (7, [.int 0, .int 0, .int 0, .int 0, .int 0, .int 0, .int 0, .int 0]))]) (S0 := Nat → Nat) (w1 := fun _ => [(q, .inr (7, [.int x4, .int x6, .int x8, .int x10, .int x12, .int 0, .int 0, .int 0]))]) (As := [.int x4, .int x6, .int x8, .int x10, .int x12]) (rest := [.ref q, .ref (B 0)]) (D := D) (yy := yy) ⟨hx, hb, hml, hown, hts⟩ (qX7_init l D yy q H.size x4 x6 x8 x10 x12) (cwI 5 hts (jgI gw276) rfl rfl rfl (jw hts gw205) (jw hts gw274) (jw hts gw275) rfl (by decide +kernel) ⟨Nat.le_of_ble_eq_true rfl, Nat.le_of_ble_eq_true rfl⟩) hP hK hD hS hA rfl hl.1 rfl (Nat.le_of_ble_eq_true rfl) (dd_of dX5_act_2 17 rfl) ⟨Nat.le_of_ble_eq_true rfl, Nat.le_of_ble_eq_true rfl⟩ (fun _ H locs _ hP hD hS => ?_)
                  refine jm2_i (As := [.ref q]) (rest := []) (w := lW yy B F G ++ ([(q, .inr (7, [.int x4, .int x6, .int x8, .int x10, .int x12, .int 0, .int 0, .int 0]))] : va_W)) (w1 := fun u : (Nat → Nat) × jS => lW yy u.1 u.2.1 u.2.2) (D := D) (yy := yy) ⟨hx, hb, hml, hown, hts⟩ (qX5_newPump l D yy B F G H.size q x4 x6 x8 x10 x12 hk9.1 hk9.2) (cwV 1 hts (jgV gw283 gw284 gw285 gw15 gw286) rfl rfl rfl (by decide +kernel) ⟨Nat.le_of_ble_eq_true rfl, Nat.le_of_ble_eq_true rfl⟩) hP hK hD hS hA (va_recv hK hP (ci := 5) (q0 := 0) rfl rfl) rfl hl.1 rfl (Nat.le_of_ble_eq_true rfl) (dd_of dX5_act_2 18 rfl) ⟨Nat.le_of_ble_eq_true rfl, Nat.le_of_ble_eq_true rfl⟩ (fun x48 u9 H locs w51 hP hD hS => ?_)
                  obtain ⟨B1, F49, G50⟩ := u9
                  obtain ⟨w51, hB1⟩ := w51
                  have hB1 : ∀ k, k < 100 → B1 k = B k := hB1
                  have hP : va_P D vwCl (lW yy B1 F49 G50) H := hP
                  have hD : va_D Z (lW yy B1 F49 G50) := hD
                  replace hres := brE w51 hres
                  refine lv_i2l (v := (Int32.toInt64 x48)) hx hb (dd_of dX5_act_2 19 rfl) rfl ?_
                  refine W.widen (k := 1) (n := 8) (Nat.le_of_ble_eq_true rfl) (Nat.le_of_ble_eq_true rfl) ?_
                  subst hQ
                  exact W.lret (v := (Int32.toInt64 x48)) hx hb hr (fun t ht hW => ⟨⟨(Int32.toInt64 x48), (B1, (F49, G50)), rfl, ⟨hres, hB1⟩, by rw [ht]; exact hP, va_K.moved hW.alike hK, hD⟩, hS.F ht⟩) hS.2.2 (dd_of dX5_act_2 20 rfl) hlk
                · replace hres := ifN c47 hres
                  replace hok := hok.2 c47
                  refine jcase (x14 = 6) (fun c52 => ?_) (fun c52 => ?_)
                  · replace hres := ifE c52 hres
                    replace hok := hok.1 c52
                    refine lv_tableIn (tgt := 247) (off := 195) hx hb (dd_of dX5_act_1 3 rfl) (by rw [c52]; decide) (by rw [c52]; decide) (by rw [c52]; rfl) (by decide) ?_
                    refine lv_aload_n hx hb (dd_of dX5_act_2 21 rfl) rfl (lv_at hl 5 rfl) ?_
                    have hk9 := hok
                    refine va_new (ci := 3) (fs := [.int 0, .int 0, .int 0, .int 0, .int 0, .long 0, .int 0]) (C := RX3) (T := TX3) (N := 7) hx hb hts (fun w h => List.mem_cons_of_mem _ (inlX3 w h)) tyX3 tyX3_ok hown (jw hts gw36) (jw hts gw206) (jw hts gw207) hK hP hD hS hA rfl (fun j hj => by rcases (show j = 0 ∨ j = 1 ∨ j = 2 ∨ j = 3 ∨ j = 4 ∨ j = 5 ∨ j = 6 by omega) with rfl | rfl | rfl | rfl | rfl | rfl | rfl <;> rfl) (Nat.le_of_ble_eq_true rfl) (Nat.le_of_ble_eq_true rfl) (dd_of dX5_act_2 22 rfl) (fun q H hP hD hS => ?_)
                    refine lv_dup hx hb (dd_of dX5_act_2 23 rfl) rfl ?_
                    refine lv_iload_n hx hb (dd_of dX5_act_2 24 rfl) rfl (lv_at hl 4 rfl) ?_
                    refine lv_iload hx hb (dd_of dX5_act_2 25 rfl) (lv_at hl 3 rfl) ?_
                    refine lv_iload hx hb (dd_of dX5_act_2 26 rfl) (lv_at hl 2 rfl) ?_
                    refine lv_iload hx hb (dd_of dX5_act_2 27 rfl) (lv_at hl 1 rfl) ?_
                    refine lv_iload hx hb (dd_of dX5_act_2 28 rfl) (lv_at hl 0 rfl) ?_
                    refine jx_p (X := lW yy B F G) (Cw := [(q, .inr (3, [.int 0, .int 0, .int 0, .int 0, .int 0, .long 0, .int 0]))]) (S0 := Nat → Nat) (w1 := fun _ => [(q, .inr (3, [.int x4, .int x6, .int x8, .int x10, .int x12, .long 0, .int 0]))]) (As := [.int x4, .int x6, .int x8, .int x10, .int x12]) (rest := [.ref q, .ref (B 0)]) (D := D) (yy := yy) ⟨hx, hb, hml, hown, hts⟩ (qX3_init l D yy q H.size x4 x6 x8 x10 x12) (cwI 5 hts (jgI gw290) rfl rfl rfl (jw hts gw207) (jw hts gw288) (jw hts gw289) rfl (by decide +kernel) ⟨Nat.le_of_ble_eq_true rfl, Nat.le_of_ble_eq_true rfl⟩) hP hK hD hS hA rfl hl.1 rfl (Nat.le_of_ble_eq_true rfl) (dd_of dX5_act_2 29 rfl) ⟨Nat.le_of_ble_eq_true rfl, Nat.le_of_ble_eq_true rfl⟩ (fun _ H locs _ hP hD hS => ?_)
                    refine jm2_i (As := [.ref q]) (rest := []) (w := lW yy B F G ++ ([(q, .inr (3, [.int x4, .int x6, .int x8, .int x10, .int x12, .long 0, .int 0]))] : va_W)) (w1 := fun u : (Nat → Nat) × jS => lW yy u.1 u.2.1 u.2.2) (D := D) (yy := yy) ⟨hx, hb, hml, hown, hts⟩ (qX5_newDyke l D yy B F G H.size q x4 x6 x8 x10 x12 hk9.1 hk9.2) (cwV 1 hts (jgV gw297 gw298 gw299 gw15 gw300) rfl rfl rfl (by decide +kernel) ⟨Nat.le_of_ble_eq_true rfl, Nat.le_of_ble_eq_true rfl⟩) hP hK hD hS hA (va_recv hK hP (ci := 5) (q0 := 0) rfl rfl) rfl hl.1 rfl (Nat.le_of_ble_eq_true rfl) (dd_of dX5_act_2 30 rfl) ⟨Nat.le_of_ble_eq_true rfl, Nat.le_of_ble_eq_true rfl⟩ (fun x53 u9 H locs w56 hP hD hS => ?_)
                    obtain ⟨B1, F54, G55⟩ := u9
                    obtain ⟨w56, hB1⟩ := w56
                    have hB1 : ∀ k, k < 100 → B1 k = B k := hB1
                    have hP : va_P D vwCl (lW yy B1 F54 G55) H := hP
                    have hD : va_D Z (lW yy B1 F54 G55) := hD
                    replace hres := brE w56 hres
                    refine lv_i2l (v := (Int32.toInt64 x53)) hx hb (dd_of dX5_act_2 31 rfl) rfl ?_
                    refine W.widen (k := 1) (n := 8) (Nat.le_of_ble_eq_true rfl) (Nat.le_of_ble_eq_true rfl) ?_
                    subst hQ
                    exact W.lret (v := (Int32.toInt64 x53)) hx hb hr (fun t ht hW => ⟨⟨(Int32.toInt64 x53), (B1, (F54, G55)), rfl, ⟨hres, hB1⟩, by rw [ht]; exact hP, va_K.moved hW.alike hK, hD⟩, hS.F ht⟩) hS.2.2 (dd_of dX5_act_2 32 rfl) hlk
                  · replace hres := ifN c52 hres
                    replace hok := hok.2 c52
                    refine jcase (x14 = 7) (fun c57 => ?_) (fun c57 => ?_)
                    · replace hres := ifE c57 hres
                      replace hok := hok.1 c57
                      refine lv_tableIn (tgt := 269) (off := 217) hx hb (dd_of dX5_act_1 3 rfl) (by rw [c57]; decide) (by rw [c57]; decide) (by rw [c57]; rfl) (by decide) ?_
                      refine lv_aload_n hx hb (dd_of dX5_act_2 33 rfl) rfl (lv_at hl 5 rfl) ?_
                      refine va_get (D := D) (cl := vwCl) (tys := jT yy) (ci := 5) (v := .ref (B 1)) (C := RX5) (T := TX5) (N := 10) hx hb hts (fun w h => List.mem_cons_of_mem _ (inlX5 w h)) hown hK hP 0 rfl rfl 0 (by decide) (jw hts gw27) (fun _ h9 => h9) rfl (dd_of dX5_act_2 34 rfl) ?_
                      refine lv_iload_n hx hb (dd_of dX5_act_2 35 rfl) rfl (lv_at hl 4 rfl) ?_
                      refine lv_iload hx hb (dd_of dX5_act_2 36 rfl) (lv_at hl 3 rfl) ?_
                      refine lv_iload hx hb (dd_of dX5_act_2 37 rfl) (lv_at hl 2 rfl) ?_
                      have h58 := hok
                      refine jm_i (As := [.int x4, .int x6, .int x8]) (rest := []) (w := (lW yy B F G)) (w1 := fun u : jS => (lW yy B u.1 u.2)) (D := D) (yy := yy) ⟨hx, hb, hml, hown, hts⟩ (qX10_layOutside l D yy B F G H.size  x4 x6 x8 h58) (cwV 3 hts (jgV gw302 gw303 gw304 gw26 gw305) rfl rfl rfl (by decide +kernel) ⟨Nat.le_of_ble_eq_true rfl, Nat.le_of_ble_eq_true rfl⟩) hP hK hD hS hA (va_recv hK hP (ci := 10) (q0 := 1) rfl rfl) rfl hl.1 rfl (Nat.le_of_ble_eq_true rfl) (dd_of dX5_act_2 38 rfl) ⟨Nat.zero_le _, Nat.zero_le _⟩ (fun x62 u9 H locs w61 hP hD hS => ?_)
                      obtain ⟨F59, G60⟩ := u9
                      have hP : va_P D vwCl (lW yy B F59 G60) H := hP
                      have hD : va_D Z (lW yy B F59 G60) := hD
                      replace hres := brE w61 hres
                      refine lv_i2l (v := (Int32.toInt64 x62)) hx hb (dd_of dX5_act_2 39 rfl) rfl ?_
                      refine W.widen (k := 1) (n := 8) (Nat.le_of_ble_eq_true rfl) (Nat.le_of_ble_eq_true rfl) ?_
                      subst hQ
                      exact W.lret (v := (Int32.toInt64 x62)) hx hb hr (fun t ht hW => ⟨⟨(Int32.toInt64 x62), (B, (F59, G60)), rfl, ⟨hres, (fun _ _ => rfl)⟩, by rw [ht]; exact hP, va_K.moved hW.alike hK, hD⟩, hS.F ht⟩) hS.2.2 (dd_of dX5_act_3 0 rfl) hlk
                    · replace hres := ifN c57 hres
                      replace hok := hok.2 c57
                      refine jcase (x14 = 8) (fun c63 => ?_) (fun c63 => ?_)
                      · replace hres := ifE c63 hres
                        replace hok := hok.1 c63
                        refine lv_tableIn (tgt := 283) (off := 231) hx hb (dd_of dX5_act_1 3 rfl) (by rw [c63]; decide) (by rw [c63]; decide) (by rw [c63]; rfl) (by decide) ?_
                        refine lv_aload_n hx hb (dd_of dX5_act_3 1 rfl) rfl (lv_at hl 5 rfl) ?_
                        refine va_get (D := D) (cl := vwCl) (tys := jT yy) (ci := 5) (v := .ref (B 1)) (C := RX5) (T := TX5) (N := 10) hx hb hts (fun w h => List.mem_cons_of_mem _ (inlX5 w h)) hown hK hP 0 rfl rfl 0 (by decide) (jw hts gw27) (fun _ h9 => h9) rfl (dd_of dX5_act_3 2 rfl) ?_
                        refine lv_iload_n hx hb (dd_of dX5_act_3 3 rfl) rfl (lv_at hl 4 rfl) ?_
                        refine lv_iload hx hb (dd_of dX5_act_3 4 rfl) (lv_at hl 3 rfl) ?_
                        refine lv_iload hx hb (dd_of dX5_act_3 5 rfl) (lv_at hl 2 rfl) ?_
                        have hk9 := hok
                        refine jm2_i (As := [.int x4, .int x6, .int x8]) (rest := []) (w := lW yy B F G) (w1 := fun u : (Nat → Nat) × jS => lW yy u.1 u.2.1 u.2.2) (D := D) (yy := yy) ⟨hx, hb, hml, hown, hts⟩ (qX10_tellStorm l D yy B F G H.size x4 x6 x8 hk9) (cwV 3 hts (jgV gw312 gw313 gw314 gw26 gw315) rfl rfl rfl (by decide +kernel) ⟨Nat.le_of_ble_eq_true rfl, Nat.le_of_ble_eq_true rfl⟩) hP hK hD hS hA (va_recv hK hP (ci := 10) (q0 := 1) rfl rfl) rfl hl.1 rfl (Nat.le_of_ble_eq_true rfl) (dd_of dX5_act_3 6 rfl) ⟨Nat.le_of_ble_eq_true rfl, Nat.le_of_ble_eq_true rfl⟩ (fun x64 u9 H locs w67 hP hD hS => ?_)
                        obtain ⟨B1, F65, G66⟩ := u9
                        obtain ⟨w67, hB1⟩ := w67
                        have hB1 : ∀ k, k < 100 → B1 k = B k := hB1
                        have hP : va_P D vwCl (lW yy B1 F65 G66) H := hP
                        have hD : va_D Z (lW yy B1 F65 G66) := hD
                        replace hres := brE w67 hres
                        refine lv_i2l (v := (Int32.toInt64 x64)) hx hb (dd_of dX5_act_3 7 rfl) rfl ?_
                        refine W.widen (k := 1) (n := 8) (Nat.le_of_ble_eq_true rfl) (Nat.le_of_ble_eq_true rfl) ?_
                        subst hQ
                        exact W.lret (v := (Int32.toInt64 x64)) hx hb hr (fun t ht hW => ⟨⟨(Int32.toInt64 x64), (B1, (F65, G66)), rfl, ⟨hres, hB1⟩, by rw [ht]; exact hP, va_K.moved hW.alike hK, hD⟩, hS.F ht⟩) hS.2.2 (dd_of dX5_act_3 8 rfl) hlk
                      · replace hres := ifN c63 hres
                        replace hok := hok.2 c63
                        refine jcase (x14 = 9) (fun c68 => ?_) (fun c68 => ?_)
                        · replace hres := ifE c68 hres
                          replace hok := hok.1 c68
                          refine lv_tableIn (tgt := 297) (off := 245) hx hb (dd_of dX5_act_1 3 rfl) (by rw [c68]; decide) (by rw [c68]; decide) (by rw [c68]; rfl) (by decide) ?_
                          refine lv_aload_n hx hb (dd_of dX5_act_3 9 rfl) rfl (lv_at hl 5 rfl) ?_
                          refine va_get (D := D) (cl := vwCl) (tys := jT yy) (ci := 5) (v := .ref (B 1)) (C := RX5) (T := TX5) (N := 10) hx hb hts (fun w h => List.mem_cons_of_mem _ (inlX5 w h)) hown hK hP 0 rfl rfl 0 (by decide) (jw hts gw27) (fun _ h9 => h9) rfl (dd_of dX5_act_3 10 rfl) ?_
                          refine lv_iload_n hx hb (dd_of dX5_act_3 11 rfl) rfl (lv_at hl 4 rfl) ?_
                          refine lv_iload hx hb (dd_of dX5_act_3 12 rfl) (lv_at hl 3 rfl) ?_
                          refine lv_iload hx hb (dd_of dX5_act_3 13 rfl) (lv_at hl 2 rfl) ?_
                          refine lv_iload hx hb (dd_of dX5_act_3 14 rfl) (lv_at hl 1 rfl) ?_
                          have hk9 := hok
                          refine jm2_i (As := [.int x4, .int x6, .int x8, .int x10]) (rest := []) (w := lW yy B F G) (w1 := fun u : (Nat → Nat) × jS => lW yy u.1 u.2.1 u.2.2) (D := D) (yy := yy) ⟨hx, hb, hml, hown, hts⟩ (qX10_tellRain l D yy B F G H.size x4 x6 x8 x10 hk9.1 hk9.2) (cwV 4 hts (jgV gw327 gw328 gw329 gw26 gw330) rfl rfl rfl (by decide +kernel) ⟨Nat.le_of_ble_eq_true rfl, Nat.le_of_ble_eq_true rfl⟩) hP hK hD hS hA (va_recv hK hP (ci := 10) (q0 := 1) rfl rfl) rfl hl.1 rfl (Nat.le_of_ble_eq_true rfl) (dd_of dX5_act_3 15 rfl) ⟨Nat.le_of_ble_eq_true rfl, Nat.le_of_ble_eq_true rfl⟩ (fun x69 u9 H locs w72 hP hD hS => ?_)
                          obtain ⟨B1, F70, G71⟩ := u9
                          obtain ⟨w72, hB1⟩ := w72
                          have hB1 : ∀ k, k < 100 → B1 k = B k := hB1
                          have hP : va_P D vwCl (lW yy B1 F70 G71) H := hP
                          have hD : va_D Z (lW yy B1 F70 G71) := hD
                          replace hres := brE w72 hres
                          refine lv_i2l (v := (Int32.toInt64 x69)) hx hb (dd_of dX5_act_3 16 rfl) rfl ?_
                          refine W.widen (k := 1) (n := 8) (Nat.le_of_ble_eq_true rfl) (Nat.le_of_ble_eq_true rfl) ?_
                          subst hQ
                          exact W.lret (v := (Int32.toInt64 x69)) hx hb hr (fun t ht hW => ⟨⟨(Int32.toInt64 x69), (B1, (F70, G71)), rfl, ⟨hres, hB1⟩, by rw [ht]; exact hP, va_K.moved hW.alike hK, hD⟩, hS.F ht⟩) hS.2.2 (dd_of dX5_act_3 17 rfl) hlk
                        · replace hres := ifN c68 hres
                          replace hok := hok.2 c68
                          refine jcase (x14 = 10) (fun c73 => ?_) (fun c73 => ?_)
                          · replace hres := ifE c73 hres
                            refine lv_tableIn (tgt := 313) (off := 261) hx hb (dd_of dX5_act_1 3 rfl) (by rw [c73]; decide) (by rw [c73]; decide) (by rw [c73]; rfl) (by decide) ?_
                            refine lv_aload_n hx hb (dd_of dX5_act_3 18 rfl) rfl (lv_at hl 5 rfl) ?_
                            refine va_get (D := D) (cl := vwCl) (tys := jT yy) (ci := 5) (v := .ref (B 1)) (C := RX5) (T := TX5) (N := 10) hx hb hts (fun w h => List.mem_cons_of_mem _ (inlX5 w h)) hown hK hP 0 rfl rfl 0 (by decide) (jw hts gw27) (fun _ h9 => h9) rfl (dd_of dX5_act_3 19 rfl) ?_
                            refine va_get (D := D) (cl := vwCl) (tys := jT yy) (ci := 10) (v := .ref (B 9)) (C := RX10) (T := TX10) (N := 8) hx hb hts (fun w h => List.mem_cons_of_mem _ (inlX10 w h)) hown hK hP 1 rfl rfl 2 (by decide) (jw hts gw208) (fun _ h9 => h9) rfl (dd_of dX5_act_3 20 rfl) ?_
                            refine lv_iload_n hx hb (dd_of dX5_act_3 21 rfl) rfl (lv_at hl 4 rfl) ?_
                            refine jm_i (As := [.int x4]) (rest := []) (w := (lW yy B F G)) (w1 := fun u : jS => (lW yy B u.1 u.2)) (D := D) (yy := yy) ⟨hx, hb, hml, hown, hts⟩ (qX6_sow l D yy B F G H.size  x4 ) (cwV 1 hts (jgV gw333 gw334 gw335 gw53 gw336) rfl rfl rfl (by decide +kernel) ⟨Nat.le_of_ble_eq_true rfl, Nat.le_of_ble_eq_true rfl⟩) hP hK hD hS hA (va_recv hK hP (ci := 6) (q0 := 4) rfl rfl) rfl hl.1 rfl (Nat.le_of_ble_eq_true rfl) (dd_of dX5_act_3 22 rfl) ⟨Nat.zero_le _, Nat.zero_le _⟩ (fun x77 u9 H locs w76 hP hD hS => ?_)
                            obtain ⟨F74, G75⟩ := u9
                            have hP : va_P D vwCl (lW yy B F74 G75) H := hP
                            have hD : va_D Z (lW yy B F74 G75) := hD
                            replace hres := brE w76 hres
                            refine lv_i2l (v := (Int32.toInt64 x77)) hx hb (dd_of dX5_act_3 23 rfl) rfl ?_
                            refine W.widen (k := 1) (n := 8) (Nat.le_of_ble_eq_true rfl) (Nat.le_of_ble_eq_true rfl) ?_
                            subst hQ
                            exact W.lret (v := (Int32.toInt64 x77)) hx hb hr (fun t ht hW => ⟨⟨(Int32.toInt64 x77), (B, (F74, G75)), rfl, ⟨hres, (fun _ _ => rfl)⟩, by rw [ht]; exact hP, va_K.moved hW.alike hK, hD⟩, hS.F ht⟩) hS.2.2 (dd_of dX5_act_3 24 rfl) hlk
                          · replace hres := ifN c73 hres
                            replace hok := hok.2 c73
                            refine jcase (x14 = 11) (fun c78 => ?_) (fun c78 => ?_)
                            · replace hres := ifE c78 hres
                              replace hok := hok.1 c78
                              refine lv_tableIn (tgt := 326) (off := 274) hx hb (dd_of dX5_act_1 3 rfl) (by rw [c78]; decide) (by rw [c78]; decide) (by rw [c78]; rfl) (by decide) ?_
                              refine lv_aload_n hx hb (dd_of dX5_act_3 25 rfl) rfl (lv_at hl 5 rfl) ?_
                              refine lv_aload_n hx hb (dd_of dX5_act_3 26 rfl) rfl (lv_at hl 5 rfl) ?_
                              refine lv_iload_n hx hb (dd_of dX5_act_3 27 rfl) rfl (lv_at hl 4 rfl) ?_
                              have h79 := hok.1
                              replace hok := hok.2
                              refine jc_q (As := [.int x4]) (rest := [.ref (B 0)]) (w := (lW yy B F G)) (D := D) (yy := yy) (B := B) (off := 200) ⟨hx, hb, hml, hown, hts⟩ (qX5_gateAt l D yy B F G  x4 h79) (cwV 1 hts (jgV gw337 gw338 gw339 gw15 gw340) rfl rfl rfl (by decide +kernel) ⟨Nat.le_of_ble_eq_true rfl, Nat.le_of_ble_eq_true rfl⟩) hP hK (va_recv hK hP (ci := 5) (q0 := 0) rfl rfl) rfl hl.1 rfl (Nat.le_of_ble_eq_true rfl) (dd_of dX5_act_3 28 rfl) ⟨Nat.zero_le _, Nat.zero_le _⟩ (fun o80 eo80 => ?_)
                              replace hres := bvE eo80 hres
                              replace hok := bvO eo80 hok
                              refine lv_iload hx hb (dd_of dX5_act_3 29 rfl) (lv_at hl 3 rfl) ?_
                              obtain ⟨z146, q145⟩ : ∃ z : Int32, (if x6 = 0 then 0 else 1) = z := ⟨_, rfl⟩
                              refine jn_i (ls := ls) (v := z146) 342 [va_rf (oB B 200 o80), .ref (B 0)] (fun v82 ev82 => ?_) (fun K147 => ?_)
                              · replace hres := bvE (ev82.trans q145.symm) hres
                                replace hok := bvO (ev82.trans q145.symm) hok
                                refine lv_iload hx hb (dd_of dX5_act_3 34 rfl) (lv_at hl 2 rfl) ?_
                                have h83 := hok
                                refine jm_i (As := [va_rf (oB B 200 o80), .int v82, .int x8]) (rest := []) (w := (lW yy B F G)) (w1 := fun u : jS => (lW yy B u.1 u.2)) (D := D) (yy := yy) ⟨hx, hb, hml, hown, hts⟩ (qX5_order l D yy B F G H.size  o80 v82 x8 h83) (cwV 3 hts (jgV gw341 gw342 gw343 gw15 gw344) rfl rfl rfl (by decide +kernel) ⟨Nat.le_of_ble_eq_true rfl, Nat.le_of_ble_eq_true rfl⟩) hP hK hD hS hA (va_recv hK hP (ci := 5) (q0 := 0) rfl rfl) rfl hl.1 rfl (Nat.le_of_ble_eq_true rfl) (dd_of dX5_act_3 35 rfl) ⟨Nat.zero_le _, Nat.zero_le _⟩ (fun x87 u9 H locs w86 hP hD hS => ?_)
                                obtain ⟨F84, G85⟩ := u9
                                have hP : va_P D vwCl (lW yy B F84 G85) H := hP
                                have hD : va_D Z (lW yy B F84 G85) := hD
                                replace hres := brE w86 hres
                                refine lv_i2l (v := (Int32.toInt64 x87)) hx hb (dd_of dX5_act_3 36 rfl) rfl ?_
                                refine W.widen (k := 1) (n := 8) (Nat.le_of_ble_eq_true rfl) (Nat.le_of_ble_eq_true rfl) ?_
                                subst hQ
                                exact W.lret (v := (Int32.toInt64 x87)) hx hb hr (fun t ht hW => ⟨⟨(Int32.toInt64 x87), (B, (F84, G85)), rfl, ⟨hres, (fun _ _ => rfl)⟩, by rw [ht]; exact hP, va_K.moved hW.alike hK, hD⟩, hS.F ht⟩) hS.2.2 (dd_of dX5_act_3 37 rfl) hlk
                              · skip
                                refine lv_if_eq (tgt := 341) hx hb (dd_of dX5_act_3 30 rfl) (by decide) (fun c81 => ?_) (fun c81 => ?_)
                                · replace q145 := ifE c81 q145
                                  refine lv_iconst (v := 0) hx hb (dd_of dX5_act_3 33 rfl) (by decide) ?_
                                  exact K147 _ q145
                                · replace q145 := ifN c81 q145
                                  refine lv_iconst (v := 1) hx hb (dd_of dX5_act_3 31 rfl) (by decide) ?_
                                  refine lv_goto (tgt := 342) hx hb (dd_of dX5_act_3 32 rfl) (by decide) ?_
                                  exact K147 _ q145
                            · replace hres := ifN c78 hres
                              replace hok := hok.2 c78
                              refine jcase (x14 = 12) (fun c88 => ?_) (fun c88 => ?_)
                              · replace hres := ifE c88 hres
                                replace hok := hok.1 c88
                                refine lv_tableIn (tgt := 349) (off := 297) hx hb (dd_of dX5_act_1 3 rfl) (by rw [c88]; decide) (by rw [c88]; decide) (by rw [c88]; rfl) (by decide) ?_
                                refine lv_aload_n hx hb (dd_of dX5_act_3 38 rfl) rfl (lv_at hl 5 rfl) ?_
                                refine lv_aload_n hx hb (dd_of dX5_act_3 39 rfl) rfl (lv_at hl 5 rfl) ?_
                                refine lv_iload_n hx hb (dd_of dX5_act_4 0 rfl) rfl (lv_at hl 4 rfl) ?_
                                have h89 := hok.1
                                replace hok := hok.2
                                refine jc_q (As := [.int x4]) (rest := [.ref (B 0)]) (w := (lW yy B F G)) (D := D) (yy := yy) (B := B) (off := 300) ⟨hx, hb, hml, hown, hts⟩ (qX5_pumpAt l D yy B F G  x4 h89) (cwV 1 hts (jgV gw376 gw377 gw378 gw15 gw379) rfl rfl rfl (by decide +kernel) ⟨Nat.le_of_ble_eq_true rfl, Nat.le_of_ble_eq_true rfl⟩) hP hK (va_recv hK hP (ci := 5) (q0 := 0) rfl rfl) rfl hl.1 rfl (Nat.le_of_ble_eq_true rfl) (dd_of dX5_act_4 1 rfl) ⟨Nat.zero_le _, Nat.zero_le _⟩ (fun o90 eo90 => ?_)
                                replace hres := bvE eo90 hres
                                replace hok := bvO eo90 hok
                                refine lv_iload hx hb (dd_of dX5_act_4 2 rfl) (lv_at hl 3 rfl) ?_
                                obtain ⟨z149, q148⟩ : ∃ z : Int32, (if x6 = 0 then 0 else 1) = z := ⟨_, rfl⟩
                                refine jn_i (ls := ls) (v := z149) 365 [va_rf (oB B 300 o90), .ref (B 0)] (fun v92 ev92 => ?_) (fun K150 => ?_)
                                · replace hres := bvE (ev92.trans q148.symm) hres
                                  replace hok := bvO (ev92.trans q148.symm) hok
                                  refine lv_iload hx hb (dd_of dX5_act_4 7 rfl) (lv_at hl 2 rfl) ?_
                                  have h93 := hok
                                  refine jm_i (As := [va_rf (oB B 300 o90), .int v92, .int x8]) (rest := []) (w := (lW yy B F G)) (w1 := fun u : jS => (lW yy B u.1 u.2)) (D := D) (yy := yy) ⟨hx, hb, hml, hown, hts⟩ (qX5_switchPump l D yy B F G H.size  o90 v92 x8 h93) (cwV 3 hts (jgV gw380 gw381 gw382 gw15 gw383) rfl rfl rfl (by decide +kernel) ⟨Nat.le_of_ble_eq_true rfl, Nat.le_of_ble_eq_true rfl⟩) hP hK hD hS hA (va_recv hK hP (ci := 5) (q0 := 0) rfl rfl) rfl hl.1 rfl (Nat.le_of_ble_eq_true rfl) (dd_of dX5_act_4 8 rfl) ⟨Nat.zero_le _, Nat.zero_le _⟩ (fun x97 u9 H locs w96 hP hD hS => ?_)
                                  obtain ⟨F94, G95⟩ := u9
                                  have hP : va_P D vwCl (lW yy B F94 G95) H := hP
                                  have hD : va_D Z (lW yy B F94 G95) := hD
                                  replace hres := brE w96 hres
                                  refine lv_i2l (v := (Int32.toInt64 x97)) hx hb (dd_of dX5_act_4 9 rfl) rfl ?_
                                  refine W.widen (k := 1) (n := 8) (Nat.le_of_ble_eq_true rfl) (Nat.le_of_ble_eq_true rfl) ?_
                                  subst hQ
                                  exact W.lret (v := (Int32.toInt64 x97)) hx hb hr (fun t ht hW => ⟨⟨(Int32.toInt64 x97), (B, (F94, G95)), rfl, ⟨hres, (fun _ _ => rfl)⟩, by rw [ht]; exact hP, va_K.moved hW.alike hK, hD⟩, hS.F ht⟩) hS.2.2 (dd_of dX5_act_4 10 rfl) hlk
                                · skip
                                  refine lv_if_eq (tgt := 364) hx hb (dd_of dX5_act_4 3 rfl) (by decide) (fun c91 => ?_) (fun c91 => ?_)
                                  · replace q148 := ifE c91 q148
                                    refine lv_iconst (v := 0) hx hb (dd_of dX5_act_4 6 rfl) (by decide) ?_
                                    exact K150 _ q148
                                  · replace q148 := ifN c91 q148
                                    refine lv_iconst (v := 1) hx hb (dd_of dX5_act_4 4 rfl) (by decide) ?_
                                    refine lv_goto (tgt := 365) hx hb (dd_of dX5_act_4 5 rfl) (by decide) ?_
                                    exact K150 _ q148
                              · replace hres := ifN c88 hres
                                replace hok := hok.2 c88
                                refine jcase (x14 = 13) (fun c98 => ?_) (fun c98 => ?_)
                                · replace hres := ifE c98 hres
                                  replace hok := hok.1 c98
                                  refine lv_tableIn (tgt := 372) (off := 320) hx hb (dd_of dX5_act_1 3 rfl) (by rw [c98]; decide) (by rw [c98]; decide) (by rw [c98]; rfl) (by decide) ?_
                                  refine lv_aload_n hx hb (dd_of dX5_act_4 11 rfl) rfl (lv_at hl 5 rfl) ?_
                                  refine lv_aload_n hx hb (dd_of dX5_act_4 12 rfl) rfl (lv_at hl 5 rfl) ?_
                                  refine lv_iload_n hx hb (dd_of dX5_act_4 13 rfl) rfl (lv_at hl 4 rfl) ?_
                                  have h99 := hok.1
                                  replace hok := hok.2
                                  refine jc_q (As := [.int x4]) (rest := [.ref (B 0)]) (w := (lW yy B F G)) (D := D) (yy := yy) (B := B) (off := 300) ⟨hx, hb, hml, hown, hts⟩ (qX5_pumpAt l D yy B F G  x4 h99) (cwV 1 hts (jgV gw376 gw377 gw378 gw15 gw379) rfl rfl rfl (by decide +kernel) ⟨Nat.le_of_ble_eq_true rfl, Nat.le_of_ble_eq_true rfl⟩) hP hK (va_recv hK hP (ci := 5) (q0 := 0) rfl rfl) rfl hl.1 rfl (Nat.le_of_ble_eq_true rfl) (dd_of dX5_act_4 14 rfl) ⟨Nat.zero_le _, Nat.zero_le _⟩ (fun o100 eo100 => ?_)
                                  replace hres := bvE eo100 hres
                                  replace hok := bvO eo100 hok
                                  have h101 := hok
                                  refine jm_i (As := [va_rf (oB B 300 o100)]) (rest := []) (w := (lW yy B F G)) (w1 := fun u : jS => (lW yy B u.1 u.2)) (D := D) (yy := yy) ⟨hx, hb, hml, hown, hts⟩ (qX5_mendPump l D yy B F G H.size  o100 h101) (cwV 1 hts (jgV gw387 gw388 gw389 gw15 gw390) rfl rfl rfl (by decide +kernel) ⟨Nat.le_of_ble_eq_true rfl, Nat.le_of_ble_eq_true rfl⟩) hP hK hD hS hA (va_recv hK hP (ci := 5) (q0 := 0) rfl rfl) rfl hl.1 rfl (Nat.le_of_ble_eq_true rfl) (dd_of dX5_act_4 15 rfl) ⟨Nat.zero_le _, Nat.zero_le _⟩ (fun x105 u9 H locs w104 hP hD hS => ?_)
                                  obtain ⟨F102, G103⟩ := u9
                                  have hP : va_P D vwCl (lW yy B F102 G103) H := hP
                                  have hD : va_D Z (lW yy B F102 G103) := hD
                                  replace hres := brE w104 hres
                                  refine lv_i2l (v := (Int32.toInt64 x105)) hx hb (dd_of dX5_act_4 16 rfl) rfl ?_
                                  refine W.widen (k := 1) (n := 8) (Nat.le_of_ble_eq_true rfl) (Nat.le_of_ble_eq_true rfl) ?_
                                  subst hQ
                                  exact W.lret (v := (Int32.toInt64 x105)) hx hb hr (fun t ht hW => ⟨⟨(Int32.toInt64 x105), (B, (F102, G103)), rfl, ⟨hres, (fun _ _ => rfl)⟩, by rw [ht]; exact hP, va_K.moved hW.alike hK, hD⟩, hS.F ht⟩) hS.2.2 (dd_of dX5_act_4 17 rfl) hlk
                                · replace hres := ifN c98 hres
                                  replace hok := hok.2 c98
                                  refine jcase (x14 = 14) (fun c106 => ?_) (fun c106 => ?_)
                                  · replace hres := ifE c106 hres
                                    replace hok := hok.1 c106
                                    refine lv_tableIn (tgt := 383) (off := 331) hx hb (dd_of dX5_act_1 3 rfl) (by rw [c106]; decide) (by rw [c106]; decide) (by rw [c106]; rfl) (by decide) ?_
                                    refine lv_aload_n hx hb (dd_of dX5_act_4 18 rfl) rfl (lv_at hl 5 rfl) ?_
                                    refine lv_aload_n hx hb (dd_of dX5_act_4 19 rfl) rfl (lv_at hl 5 rfl) ?_
                                    refine lv_iload_n hx hb (dd_of dX5_act_4 20 rfl) rfl (lv_at hl 4 rfl) ?_
                                    have h107 := hok.1
                                    replace hok := hok.2
                                    refine jc_q (As := [.int x4]) (rest := [.ref (B 0)]) (w := (lW yy B F G)) (D := D) (yy := yy) (B := B) (off := 700) ⟨hx, hb, hml, hown, hts⟩ (qX5_crewAt l D yy B F G  x4 h107) (cwV 1 hts (jgV gw392 gw393 gw394 gw15 gw395) rfl rfl rfl (by decide +kernel) ⟨Nat.le_of_ble_eq_true rfl, Nat.le_of_ble_eq_true rfl⟩) hP hK (va_recv hK hP (ci := 5) (q0 := 0) rfl rfl) rfl hl.1 rfl (Nat.le_of_ble_eq_true rfl) (dd_of dX5_act_4 21 rfl) ⟨Nat.zero_le _, Nat.zero_le _⟩ (fun o108 eo108 => ?_)
                                    replace hres := bvE eo108 hres
                                    replace hok := bvO eo108 hok
                                    refine lv_iload hx hb (dd_of dX5_act_4 22 rfl) (lv_at hl 3 rfl) ?_
                                    refine lv_iload hx hb (dd_of dX5_act_4 23 rfl) (lv_at hl 2 rfl) ?_
                                    have h109 := hok
                                    refine jm_i (As := [va_rf (oB B 700 o108), .int x6, .int x8]) (rest := []) (w := (lW yy B F G)) (w1 := fun u : jS => (lW yy B u.1 u.2)) (D := D) (yy := yy) ⟨hx, hb, hml, hown, hts⟩ (qX5_sendCrew l D yy B F G H.size  o108 x6 x8 h109) (cwV 3 hts (jgV gw396 gw397 gw398 gw15 gw399) rfl rfl rfl (by decide +kernel) ⟨Nat.le_of_ble_eq_true rfl, Nat.le_of_ble_eq_true rfl⟩) hP hK hD hS hA (va_recv hK hP (ci := 5) (q0 := 0) rfl rfl) rfl hl.1 rfl (Nat.le_of_ble_eq_true rfl) (dd_of dX5_act_4 24 rfl) ⟨Nat.zero_le _, Nat.zero_le _⟩ (fun x113 u9 H locs w112 hP hD hS => ?_)
                                    obtain ⟨F110, G111⟩ := u9
                                    have hP : va_P D vwCl (lW yy B F110 G111) H := hP
                                    have hD : va_D Z (lW yy B F110 G111) := hD
                                    replace hres := brE w112 hres
                                    refine lv_i2l (v := (Int32.toInt64 x113)) hx hb (dd_of dX5_act_4 25 rfl) rfl ?_
                                    refine W.widen (k := 1) (n := 8) (Nat.le_of_ble_eq_true rfl) (Nat.le_of_ble_eq_true rfl) ?_
                                    subst hQ
                                    exact W.lret (v := (Int32.toInt64 x113)) hx hb hr (fun t ht hW => ⟨⟨(Int32.toInt64 x113), (B, (F110, G111)), rfl, ⟨hres, (fun _ _ => rfl)⟩, by rw [ht]; exact hP, va_K.moved hW.alike hK, hD⟩, hS.F ht⟩) hS.2.2 (dd_of dX5_act_4 26 rfl) hlk
                                  · replace hres := ifN c106 hres
                                    replace hok := hok.2 c106
                                    refine jcase (x14 = 15) (fun c114 => ?_) (fun c114 => ?_)
                                    · replace hres := ifE c114 hres
                                      refine lv_tableIn (tgt := 398) (off := 346) hx hb (dd_of dX5_act_1 3 rfl) (by rw [c114]; decide) (by rw [c114]; decide) (by rw [c114]; rfl) (by decide) ?_
                                      refine lv_aload_n hx hb (dd_of dX5_act_4 27 rfl) rfl (lv_at hl 5 rfl) ?_
                                      refine va_get (D := D) (cl := vwCl) (tys := jT yy) (ci := 5) (v := .ref (B 2)) (C := RX5) (T := TX5) (N := 10) hx hb hts (fun w h => List.mem_cons_of_mem _ (inlX5 w h)) hown hK hP 0 rfl rfl 1 (by decide) (jw hts gw31) (fun _ h9 => h9) rfl (dd_of dX5_act_4 28 rfl) ?_
                                      refine lv_iload_n hx hb (dd_of dX5_act_4 29 rfl) rfl (lv_at hl 4 rfl) ?_
                                      refine lv_iload hx hb (dd_of dX5_act_4 30 rfl) (lv_at hl 3 rfl) ?_
                                      refine jm_i (As := [.int x4, .int x6]) (rest := []) (w := (lW yy B F G)) (w1 := fun u : jS => (lW yy B u.1 u.2)) (D := D) (yy := yy) ⟨hx, hb, hml, hown, hts⟩ (qX1_grant l D yy B F G H.size  x4 x6 ) (cwV 2 hts (jgV gw402 gw403 gw404 gw30 gw405) rfl rfl rfl (by decide +kernel) ⟨Nat.le_of_ble_eq_true rfl, Nat.le_of_ble_eq_true rfl⟩) hP hK hD hS hA (va_recv hK hP (ci := 1) (q0 := 2) rfl rfl) rfl hl.1 rfl (Nat.le_of_ble_eq_true rfl) (dd_of dX5_act_4 31 rfl) ⟨Nat.zero_le _, Nat.zero_le _⟩ (fun x118 u9 H locs w117 hP hD hS => ?_)
                                      obtain ⟨F115, G116⟩ := u9
                                      have hP : va_P D vwCl (lW yy B F115 G116) H := hP
                                      have hD : va_D Z (lW yy B F115 G116) := hD
                                      replace hres := brE w117 hres
                                      refine lv_i2l (v := (Int32.toInt64 x118)) hx hb (dd_of dX5_act_4 32 rfl) rfl ?_
                                      refine W.widen (k := 1) (n := 8) (Nat.le_of_ble_eq_true rfl) (Nat.le_of_ble_eq_true rfl) ?_
                                      subst hQ
                                      exact W.lret (v := (Int32.toInt64 x118)) hx hb hr (fun t ht hW => ⟨⟨(Int32.toInt64 x118), (B, (F115, G116)), rfl, ⟨hres, (fun _ _ => rfl)⟩, by rw [ht]; exact hP, va_K.moved hW.alike hK, hD⟩, hS.F ht⟩) hS.2.2 (dd_of dX5_act_4 33 rfl) hlk
                                    · replace hres := ifN c114 hres
                                      replace hok := hok.2 c114
                                      refine jcase (x14 = 16) (fun c119 => ?_) (fun c119 => ?_)
                                      · replace hres := ifE c119 hres
                                        replace hok := hok.1 c119
                                        refine lv_tableIn (tgt := 410) (off := 358) hx hb (dd_of dX5_act_1 3 rfl) (by rw [c119]; decide) (by rw [c119]; decide) (by rw [c119]; rfl) (by decide) ?_
                                        refine lv_aload_n hx hb (dd_of dX5_act_4 34 rfl) rfl (lv_at hl 5 rfl) ?_
                                        refine va_get (D := D) (cl := vwCl) (tys := jT yy) (ci := 5) (v := .ref (B 2)) (C := RX5) (T := TX5) (N := 10) hx hb hts (fun w h => List.mem_cons_of_mem _ (inlX5 w h)) hown hK hP 0 rfl rfl 1 (by decide) (jw hts gw31) (fun _ h9 => h9) rfl (dd_of dX5_act_4 35 rfl) ?_
                                        refine lv_aload_n hx hb (dd_of dX5_act_4 36 rfl) rfl (lv_at hl 5 rfl) ?_
                                        refine lv_iload_n hx hb (dd_of dX5_act_4 37 rfl) rfl (lv_at hl 4 rfl) ?_
                                        have h120 := hok.1
                                        replace hok := hok.2
                                        refine jc_q (As := [.int x4]) (rest := [.ref (B 2)]) (w := (lW yy B F G)) (D := D) (yy := yy) (B := B) (off := 400) ⟨hx, hb, hml, hown, hts⟩ (qX5_dykeAt l D yy B F G  x4 h120) (cwV 1 hts (jgV gw408 gw409 gw410 gw15 gw411) rfl rfl rfl (by decide +kernel) ⟨Nat.le_of_ble_eq_true rfl, Nat.le_of_ble_eq_true rfl⟩) hP hK (va_recv hK hP (ci := 5) (q0 := 0) rfl rfl) rfl hl.1 rfl (Nat.le_of_ble_eq_true rfl) (dd_of dX5_act_4 38 rfl) ⟨Nat.zero_le _, Nat.zero_le _⟩ (fun o121 eo121 => ?_)
                                        replace hres := bvE eo121 hres
                                        replace hok := bvO eo121 hok
                                        refine lv_iload hx hb (dd_of dX5_act_4 39 rfl) (lv_at hl 3 rfl) ?_
                                        refine lv_iload hx hb (dd_of dX5_act_5 0 rfl) (lv_at hl 2 rfl) ?_
                                        have h122 := hok
                                        refine jm_i (As := [va_rf (oB B 400 o121), .int x6, .int x8]) (rest := []) (w := (lW yy B F G)) (w1 := fun u : jS => (lW yy B u.1 u.2)) (D := D) (yy := yy) ⟨hx, hb, hml, hown, hts⟩ (qX1_beginWork l D yy B F G H.size  o121 x6 x8 h122) (cwV 3 hts (jgV gw412 gw413 gw414 gw30 gw415) rfl rfl rfl (by decide +kernel) ⟨Nat.le_of_ble_eq_true rfl, Nat.le_of_ble_eq_true rfl⟩) hP hK hD hS hA (va_recv hK hP (ci := 1) (q0 := 2) rfl rfl) rfl hl.1 rfl (Nat.le_of_ble_eq_true rfl) (dd_of dX5_act_5 1 rfl) ⟨Nat.zero_le _, Nat.zero_le _⟩ (fun x126 u9 H locs w125 hP hD hS => ?_)
                                        obtain ⟨F123, G124⟩ := u9
                                        have hP : va_P D vwCl (lW yy B F123 G124) H := hP
                                        have hD : va_D Z (lW yy B F123 G124) := hD
                                        replace hres := brE w125 hres
                                        refine lv_i2l (v := (Int32.toInt64 x126)) hx hb (dd_of dX5_act_5 2 rfl) rfl ?_
                                        refine W.widen (k := 1) (n := 8) (Nat.le_of_ble_eq_true rfl) (Nat.le_of_ble_eq_true rfl) ?_
                                        subst hQ
                                        exact W.lret (v := (Int32.toInt64 x126)) hx hb hr (fun t ht hW => ⟨⟨(Int32.toInt64 x126), (B, (F123, G124)), rfl, ⟨hres, (fun _ _ => rfl)⟩, by rw [ht]; exact hP, va_K.moved hW.alike hK, hD⟩, hS.F ht⟩) hS.2.2 (dd_of dX5_act_5 3 rfl) hlk
                                      · replace hres := ifN c119 hres
                                        replace hok := hok.2 c119
                                        refine jcase (x14 = 17) (fun c127 => ?_) (fun c127 => ?_)
                                        · replace hres := ifE c127 hres
                                          replace hok := hok.1 c127
                                          refine lv_tableIn (tgt := 428) (off := 376) hx hb (dd_of dX5_act_1 3 rfl) (by rw [c127]; decide) (by rw [c127]; decide) (by rw [c127]; rfl) (by decide) ?_
                                          refine lv_aload_n hx hb (dd_of dX5_act_5 4 rfl) rfl (lv_at hl 5 rfl) ?_
                                          refine lv_iload_n hx hb (dd_of dX5_act_5 5 rfl) rfl (lv_at hl 4 rfl) ?_
                                          have h128 := hok
                                          refine jm_i (As := [.int x4]) (rest := []) (w := (lW yy B F G)) (w1 := fun u : jS => (lW yy B u.1 u.2)) (D := D) (yy := yy) ⟨hx, hb, hml, hown, hts⟩ (qX5_passHours l D yy B F G H.size  x4 h128) (cwV 1 hts (jgV gw416 gw417 gw418 gw15 gw419) rfl rfl rfl (by decide +kernel) ⟨Nat.le_of_ble_eq_true rfl, Nat.le_of_ble_eq_true rfl⟩) hP hK hD hS hA (va_recv hK hP (ci := 5) (q0 := 0) rfl rfl) rfl hl.1 rfl (Nat.le_of_ble_eq_true rfl) (dd_of dX5_act_5 6 rfl) ⟨Nat.zero_le _, Nat.zero_le _⟩ (fun x132 u9 H locs w131 hP hD hS => ?_)
                                          obtain ⟨F129, G130⟩ := u9
                                          have hP : va_P D vwCl (lW yy B F129 G130) H := hP
                                          have hD : va_D Z (lW yy B F129 G130) := hD
                                          replace hres := brE w131 hres
                                          refine lv_i2l (v := (Int32.toInt64 x132)) hx hb (dd_of dX5_act_5 7 rfl) rfl ?_
                                          refine W.widen (k := 1) (n := 8) (Nat.le_of_ble_eq_true rfl) (Nat.le_of_ble_eq_true rfl) ?_
                                          subst hQ
                                          exact W.lret (v := (Int32.toInt64 x132)) hx hb hr (fun t ht hW => ⟨⟨(Int32.toInt64 x132), (B, (F129, G130)), rfl, ⟨hres, (fun _ _ => rfl)⟩, by rw [ht]; exact hP, va_K.moved hW.alike hK, hD⟩, hS.F ht⟩) hS.2.2 (dd_of dX5_act_5 8 rfl) hlk
                                        · replace hres := ifN c127 hres
                                          replace hok := hok.2 c127
                                          refine jcase (x14 = 18) (fun c133 => ?_) (fun c133 => ?_)
                                          · replace hres := ifE c133 hres
                                            replace hok := hok.1 c133
                                            refine lv_tableIn (tgt := 435) (off := 383) hx hb (dd_of dX5_act_1 3 rfl) (by rw [c133]; decide) (by rw [c133]; decide) (by rw [c133]; rfl) (by decide) ?_
                                            refine lv_aload_n hx hb (dd_of dX5_act_5 9 rfl) rfl (lv_at hl 5 rfl) ?_
                                            have h134 := hok
                                            refine jm_i (As := []) (rest := []) (w := (lW yy B F G)) (w1 := fun u : jS => (lW yy B u.1 u.2)) (D := D) (yy := yy) ⟨hx, hb, hml, hown, hts⟩ (qX5_closeYear l D yy B F G H.size   h134) (cwV 0 hts (jgV gw565 gw566 gw567 gw15 gw568) rfl rfl rfl (by decide +kernel) ⟨Nat.le_of_ble_eq_true rfl, Nat.le_of_ble_eq_true rfl⟩) hP hK hD hS hA (va_recv hK hP (ci := 5) (q0 := 0) rfl rfl) rfl hl.1 rfl (Nat.le_of_ble_eq_true rfl) (dd_of dX5_act_5 10 rfl) ⟨Nat.zero_le _, Nat.zero_le _⟩ (fun x138 u9 H locs w137 hP hD hS => ?_)
                                            obtain ⟨F135, G136⟩ := u9
                                            have hP : va_P D vwCl (lW yy B F135 G136) H := hP
                                            have hD : va_D Z (lW yy B F135 G136) := hD
                                            replace hres := brE w137 hres
                                            refine lv_i2l (v := (Int32.toInt64 x138)) hx hb (dd_of dX5_act_5 11 rfl) rfl ?_
                                            refine W.widen (k := 1) (n := 8) (Nat.le_of_ble_eq_true rfl) (Nat.le_of_ble_eq_true rfl) ?_
                                            subst hQ
                                            exact W.lret (v := (Int32.toInt64 x138)) hx hb hr (fun t ht hW => ⟨⟨(Int32.toInt64 x138), (B, (F135, G136)), rfl, ⟨hres, (fun _ _ => rfl)⟩, by rw [ht]; exact hP, va_K.moved hW.alike hK, hD⟩, hS.F ht⟩) hS.2.2 (dd_of dX5_act_5 12 rfl) hlk
                                          · replace hres := ifN c133 hres
                                            replace hok := hok.2 c133
                                            exact False.elim hok
    · replace hres := ifN c2 hres
      refine lv_lconst (v := 0) hx hb (dd_of dX5_act_0 8 rfl) (by decide) ?_
      refine W.widen (k := 1) (n := 8) (Nat.le_of_ble_eq_true rfl) (Nat.le_of_ble_eq_true rfl) ?_
      subst hQ
      exact W.lret (v := 0) hx hb hr (fun t ht hW => ⟨⟨0, (B, (F, G)), rfl, ⟨hres, (fun _ _ => rfl)⟩, by rw [ht]; exact hP, va_K.moved hW.alike hK, hD⟩, hS.F ht⟩) hS.2.2 (dd_of dX5_act_0 9 rfl) hlk
