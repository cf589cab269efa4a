def gX5_newGate (F : jF) (G : jG) (p1 p2 p3 p4 : Int32) : Int32 × jS := (F 17 0, ((u2 (u2 (u2 (u2 (u2 (u2 F 18 (cn F 17) p1) 19 (cn F 17) p2) 20 (cn F 17) p3) 21 (cn F 17) p4) 22 (cn F 17) 0) 17 0 (F 17 0 + 1)), G))
abbrev rmX5_newGate : Room := { frames := 2, cells := 1, slots := 5, locals := 36 }
def gX10_newBasin (F : jF) (G : jG) (p1 p2 : Int32) : Int32 × jS := (F 8 0, ((u2 (u2 (u2 (u2 (u2 (u2 F 9 (cn F 8) (if 1 ≤ p1 then p1 else 1)) 10 (cn F 8) p2) 11 (cn F 8) 0) 12 (cn F 8) 100) 13 (cn F 8) 0) 8 0 (F 8 0 + 1)), (u2 (u2 G 14 (cn F 8) 0) 15 (cn F 8) 0)))
abbrev rmX10_newBasin : Room := { frames := 2, cells := 1, slots := 7, locals := 34 }
def gX6_addStorm (F : jF) (G : jG) (p1 p2 p3 : Int32) : Int32 × jS := (F 40 0 + 1, ((u2 (u2 (u2 (u2 (u2 F 41 (cn F 40) p1) 42 (cn F 40) p2) 43 (cn F 40) p3) 63 (cn F 40) (-1)) 40 0 (F 40 0 + 1)), G))
abbrev rmX6_addStorm : Room := { frames := 2, cells := 1, slots := 4, locals := 36 }
def gX10_tellRain (F : jF) (G : jG) (p1 p2 p3 p4 : Int32) : Int32 × jS := (F 44 0 + 1, ((u2 (u2 (u2 (u2 (u2 F 46 (cn F 44) p2) 47 (cn F 44) p3) 48 (cn F 44) p4) 45 (cn F 44) p1) 44 0 (F 44 0 + 1)), G))
abbrev rmX10_tellRain : Room := { frames := 2, cells := 1, slots := 4, locals := 36 }
def gX5_newPump (F : jF) (G : jG) (p1 p2 p3 p4 p5 : Int32) : Int32 × jS := (F 23 0, ((u2 (u2 (u2 (u2 (u2 (u2 (u2 (u2 (u2 F 24 (cn F 23) p1) 25 (cn F 23) p2) 26 (cn F 23) p3) 27 (cn F 23) p4) 28 (cn F 23) p5) 29 (cn F 23) 0) 30 (cn F 23) 0) 31 (cn F 23) 0) 23 0 (F 23 0 + 1)), G))
abbrev rmX5_newPump : Room := { frames := 0, cells := 0, slots := 0, locals := 0 }
def gX5_newDyke (F : jF) (G : jG) (p1 p2 p3 p4 p5 : Int32) : Int32 × jS := (F 32 0, ((u2 (u2 (u2 (u2 (u2 (u2 (u2 F 33 (cn F 32) p1) 34 (cn F 32) p2) 35 (cn F 32) p3) 36 (cn F 32) p4) 37 (cn F 32) p5) 39 (cn F 32) 0) 32 0 (F 32 0 + 1)), (u2 G 61 (cn F 32) 0)))
abbrev rmX5_newDyke : Room := { frames := 0, cells := 0, slots := 0, locals := 0 }
set_option maxHeartbeats 4000000 in
set_option maxRecDepth 100000 in
theorem qX5_newGate (l : Launch) (D : va_G) (yy : Nat → ClassId) (B : Nat → Nat) (F : jF) (G : jG) (sz : Nat) (p1 p2 p3 p4 : Int32) (hk : lK F) (hr : lroom F 17 8) : Met l yX5_newGate (Cond.code yX5_newGate cX5_newGate 5 (some .int) :: wsL_law) rmX5_newGate (va_Pc [.ref (B 0), .int p1, .int p2, .int p3, .int p4] (jP D yy (lW yy B F G) sz)) (va_Qi (fun r (u : (Nat → Nat) × jS) => (r, u.2) = gX5_newGate F G p1 p2 p3 p4 ∧ ∀ k, k < 100 → u.1 k = B k) (fun u t => jB D yy (va_A (lW yy B F G) sz) (lW yy u.1 u.2.1 u.2.2) t) (va_A (lW yy B F G) sz)) 1 5 (va_A (lW yy B F G) sz) := by
  refine jM (vs := [.ref (B 0), .int p1, .int p2, .int p3, .int p4]) (own := RX5) (by decide) rfl (Nat.le_of_ble_eq_true rfl) ?_
  intro p e s m args below meth c ls Q hQ hargs S hr9 hlk hinit hB hl
  obtain ⟨hx, hb, hml, hown, hts⟩ := S
  have hl : lv_has ls 5 [(0, .ref (B 0)), (1, .int p1), (2, .int p2), (3, .int p3), (4, .int p4)] := hl
  obtain ⟨hsz, hP, hK, hD0⟩ := hB
  subst hsz
  have hD := hD0.self (sz := s.heap.size)
  generalize hZ : va_A (lW yy B F G) s.heap.size = Z at hD hQ
  have hA : ∀ q : Nat, s.heap.size ≤ q → Z q := fun q h => by rw [← hZ]; exact Or.inr h
  obtain ⟨H, hH⟩ : ∃ z, z = s.heap := ⟨_, rfl⟩
  obtain ⟨locs, hlocs⟩ : ∃ z : List Loc, z = [] := ⟨_, rfl⟩
  have hS : va_S Z s.heap H locs := by rw [hH, hlocs]; exact va_S.rf
  rw [← hH] at hP
  suffices hgo : W p l e rmX5_newGate s m args below meth c H locs 0 0 Q (F0 m 0 ls []) by rw [hH, hlocs] at hgo; exact hgo
  refine lv_aload_n hx hb (dd_of dX5_newGate_0 0 rfl) rfl (lv_at hl 0 rfl) ?_
  refine va_get (D := D) (cl := vwCl) (tys := jT yy) (ci := 5) (v := .int (F 17 0)) (C := RX5) (T := TX5) (N := 10) hx hb hts (fun w h => List.mem_cons_of_mem _ (inlX5 w h)) hown hK hP 0 rfl rfl 3 (by decide) (jw hts gw263) (fun _ h9 => h9) rfl (dd_of dX5_newGate_0 1 rfl) ?_
  refine lv_if_lt (tgt := 19) hx hb (dd_of dX5_newGate_0 2 rfl) (by decide) (fun c9 => absurd c9 (by rw [hr.1]; exact nI_pos (by have := hr.2; omega))) (fun _ => ?_)
  refine lv_aload_n hx hb (dd_of dX5_newGate_0 3 rfl) rfl (lv_at hl 0 rfl) ?_
  refine va_get (D := D) (cl := vwCl) (tys := jT yy) (ci := 5) (v := .int (F 17 0)) (C := RX5) (T := TX5) (N := 10) hx hb hts (fun w h => List.mem_cons_of_mem _ (inlX5 w h)) hown hK hP 0 rfl rfl 3 (by decide) (jw hts gw263) (fun _ h9 => h9) rfl (dd_of dX5_newGate_0 4 rfl) ?_
  refine lv_aload_n hx hb (dd_of dX5_newGate_0 5 rfl) rfl (lv_at hl 0 rfl) ?_
  refine va_get (D := D) (cl := vwCl) (tys := jT yy) (ci := 5) (v := .ref (B 3)) (C := RX5) (T := TX5) (N := 10) hx hb hts (fun w h => List.mem_cons_of_mem _ (inlX5 w h)) hown hK hP 0 rfl rfl 2 (by decide) (jw hts gw33) (fun _ h9 => h9) rfl (dd_of dX5_newGate_0 6 rfl) ?_
  refine va_alen (v := 8) hx hb hK hP 5 6 rfl rfl rfl (dd_of dX5_newGate_0 7 rfl) ?_
  refine lv_icmp_lt (tgt := 21) hx hb (dd_of dX5_newGate_0 8 rfl) (by decide) (fun _ => ?_) (fun c9 => absurd (show F 17 0 < nI 8 by rw [hr.1]; exact nI_lt hr.2 (by omega)) c9)
  refine lv_aload_n hx hb (dd_of dX5_newGate_0 11 rfl) rfl (lv_at hl 0 rfl) ?_
  refine va_get (D := D) (cl := vwCl) (tys := jT yy) (ci := 5) (v := .ref (B 3)) (C := RX5) (T := TX5) (N := 10) hx hb hts (fun w h => List.mem_cons_of_mem _ (inlX5 w h)) hown hK hP 0 rfl rfl 2 (by decide) (jw hts gw33) (fun _ h9 => h9) rfl (dd_of dX5_newGate_0 12 rfl) ?_
  refine lv_aload_n hx hb (dd_of dX5_newGate_0 13 rfl) rfl (lv_at hl 0 rfl) ?_
  refine va_get (D := D) (cl := vwCl) (tys := jT yy) (ci := 5) (v := .int (F 17 0)) (C := RX5) (T := TX5) (N := 10) hx hb hts (fun w h => List.mem_cons_of_mem _ (inlX5 w h)) hown hK hP 0 rfl rfl 3 (by decide) (jw hts gw263) (fun _ h9 => h9) rfl (dd_of dX5_newGate_0 14 rfl) ?_
  refine va_new (ci := 4) (fs := [.int 0, .int 0, .int 0, .int 0, .int 0]) (C := RX4) (T := TX4) (N := 5) hx hb hts (fun w h => List.mem_cons_of_mem _ (inlX4 w h)) tyX4 tyX4_ok hown (jw hts gw32) (jw hts gw264) (jw hts gw265) hK hP hD hS hA rfl (fun j hj => by rcases (show j = 0 ∨ j = 1 ∨ j = 2 ∨ j = 3 ∨ j = 4 by omega) with rfl | rfl | rfl | rfl | rfl <;> rfl) (Nat.le_of_ble_eq_true rfl) (Nat.le_of_ble_eq_true rfl) (dd_of dX5_newGate_0 15 rfl) (fun q H hP hD hS => ?_)
  refine lv_dup hx hb (dd_of dX5_newGate_0 16 rfl) rfl ?_
  refine lv_iload_n hx hb (dd_of dX5_newGate_0 17 rfl) rfl (lv_at hl 1 rfl) ?_
  refine lv_iload_n hx hb (dd_of dX5_newGate_0 18 rfl) rfl (lv_at hl 2 rfl) ?_
  refine lv_iload_n hx hb (dd_of dX5_newGate_0 19 rfl) rfl (lv_at hl 3 rfl) ?_
  refine lv_iload hx hb (dd_of dX5_newGate_0 20 rfl) (lv_at hl 4 rfl) ?_
  refine jx_p (X := lW yy B F G) (Cw := [(q, .inr (4, [.int 0, .int 0, .int 0, .int 0, .int 0]))]) (S0 := Nat → Nat) (w1 := fun _ => [(q, .inr (4, [.int p1, .int p2, .int p3, .int p4, .int 0]))]) (As := [.int p1, .int p2, .int p3, .int p4]) (rest := [.ref q, .int (F 17 0), .ref (B 3)]) (D := D) (yy := yy) ⟨hx, hb, hml, hown, hts⟩ (qX4_init l D yy q H.size p1 p2 p3 p4) (cwI 4 hts (jgI gw268) rfl rfl rfl (jw hts gw265) (jw hts gw266) (jw hts gw267) rfl (by decide +kernel) ⟨Nat.le_of_ble_eq_true rfl, Nat.le_of_ble_eq_true rfl⟩) hP hK hD hS hA rfl hl.1 rfl (Nat.le_of_ble_eq_true rfl) (dd_of dX5_newGate_0 21 rfl) ⟨Nat.le_of_ble_eq_true rfl, Nat.le_of_ble_eq_true rfl⟩ (fun _ H locs _ hP hD hS => ?_)
  refine va_astq (r := (RX4, TX4, 5)) hx hb hK hP hD hS 5 6 ((lW yy B F G).length + 0) 4 rfl rfl (ap_get (i := 0) rfl) rfl (show vp_in (F 17 0) 8 by rw [hr.1]; exact vp_in_nI hr.2 (by omega)) (dd_of dX5_newGate_0 22 rfl) (fun H locs hP hD hS => ?_)
  have hP : va_P D vwCl ((lW yy B F G ++ ([(q, .inr (4, [.int p1, .int p2, .int p3, .int p4, .int 0]))] : va_W)).set 5 (B 3, .inl (yy 6, 8, .inr (.inr (.inr (.inr (va_up (fun i => oB B 200 (op (cn F 17) i)) (Int32.toNatClampNeg (F 17 0)) (some q)))))))) H := hP
  have hD : va_D Z ((lW yy B F G ++ ([(q, .inr (4, [.int p1, .int p2, .int p3, .int p4, .int 0]))] : va_W)).set 5 (B 3, .inl (yy 6, 8, .inr (.inr (.inr (.inr (va_up (fun i => oB B 200 (op (cn F 17) i)) (Int32.toNatClampNeg (F 17 0)) (some q)))))))) := hD
  refine lv_aload_n hx hb (dd_of dX5_newGate_0 23 rfl) rfl (lv_at hl 0 rfl) ?_
  refine lv_dup hx hb (dd_of dX5_newGate_0 24 rfl) rfl ?_
  refine va_get (D := D) (cl := vwCl) (tys := jT yy) (ci := 5) (v := .int (F 17 0)) (C := RX5) (T := TX5) (N := 10) hx hb hts (fun w h => List.mem_cons_of_mem _ (inlX5 w h)) hown hK hP 0 rfl rfl 3 (by decide) (jw hts gw263) (fun _ h9 => h9) rfl (dd_of dX5_newGate_0 25 rfl) ?_
  refine lv_dup_x1 hx hb (dd_of dX5_newGate_0 26 rfl) rfl rfl ?_
  refine lv_iconst (v := 1) hx hb (dd_of dX5_newGate_0 27 rfl) (by decide) ?_
  refine lv_iadd hx hb (dd_of dX5_newGate_0 28 rfl) ?_
  refine va_put (D := D) (cl := vwCl) (tys := jT yy) (ci := 5) (v := .int (F 17 0 + 1)) (ty := .int) (C := RX5) (T := TX5) (N := 10) hx hb hts (fun w h => List.mem_cons_of_mem _ (inlX5 w h)) tyX5 tyX5_ok nmX5 hown hK hP hD hS 0 rfl rfl 3 (by decide) (jw hts gw263) (fun _ h9 => h9) rfl (by decide +kernel) rfl rfl (Nat.le_of_ble_eq_true rfl) (dd_of dX5_newGate_0 29 rfl) (fun H locs hP hD hS => ?_)
  have hP : va_P D vwCl (((lW yy B F G ++ ([(q, .inr (4, [.int p1, .int p2, .int p3, .int p4, .int 0]))] : va_W)).set 5 (B 3, .inl (yy 6, 8, .inr (.inr (.inr (.inr (va_up (fun i => oB B 200 (op (cn F 17) i)) (Int32.toNatClampNeg (F 17 0)) (some q)))))))).set 0 (B 0, .inr (5, [.ref (B 1), .ref (B 2), .ref (B 3), .int (F 17 0 + 1), .ref (B 4), .int (F 23 0), .ref (B 5), .int (F 32 0), .ref (B 6), .ref (B 7)]))) H := hP
  have hD : va_D Z (((lW yy B F G ++ ([(q, .inr (4, [.int p1, .int p2, .int p3, .int p4, .int 0]))] : va_W)).set 5 (B 3, .inl (yy 6, 8, .inr (.inr (.inr (.inr (va_up (fun i => oB B 200 (op (cn F 17) i)) (Int32.toNatClampNeg (F 17 0)) (some q)))))))).set 0 (B 0, .inr (5, [.ref (B 1), .ref (B 2), .ref (B 3), .int (F 17 0 + 1), .ref (B 4), .int (F 23 0), .ref (B 5), .int (F 32 0), .ref (B 6), .ref (B 7)]))) := hD
  obtain ⟨B1, hB1, hP, hD⟩ := lW_grow_gate hk hr hP hD
  subst hQ
  exact W.iret (v := F 17 0) hx hb hr9 (fun t ht hW => ⟨⟨F 17 0, (B1, ((u2 (u2 (u2 (u2 (u2 (u2 F 18 (cn F 17) p1) 19 (cn F 17) p2) 20 (cn F 17) p3) 21 (cn F 17) p4) 22 (cn F 17) 0) 17 0 (F 17 0 + 1)), G)), rfl, ⟨rfl, hB1⟩, by rw [ht]; exact hP, va_K.moved hW.alike hK, hD⟩, hS.F ht⟩) hS.2.2 (dd_of dX5_newGate_0 30 rfl) hlk
set_option maxHeartbeats 4000000 in
set_option maxRecDepth 100000 in
theorem qX10_newBasin (l : Launch) (D : va_G) (yy : Nat → ClassId) (B : Nat → Nat) (F : jF) (G : jG) (sz : Nat) (p1 p2 : Int32) (hk : lK F) (hr : lroom F 8 8) : Met l yX10_newBasin (Cond.code yX10_newBasin cX10_newBasin 3 (some .int) :: wsL_law) rmX10_newBasin (va_Pc [.ref (B 1), .int p1, .int p2] (jP D yy (lW yy B F G) sz)) (va_Qi (fun r (u : (Nat → Nat) × jS) => (r, u.2) = gX10_newBasin F G p1 p2 ∧ ∀ k, k < 100 → u.1 k = B k) (fun u t => jB D yy (va_A (lW yy B F G) sz) (lW yy u.1 u.2.1 u.2.2) t) (va_A (lW yy B F G) sz)) 1 7 (va_A (lW yy B F G) sz) := by
  refine jM (vs := [.ref (B 1), .int p1, .int p2]) (own := RX10) (by decide) rfl (Nat.le_of_ble_eq_true rfl) ?_
  intro p e s m args below meth c ls Q hQ hargs S hr9 hlk hinit hB hl
  obtain ⟨hx, hb, hml, hown, hts⟩ := S
  have hl : lv_has ls 3 [(0, .ref (B 1)), (1, .int p1), (2, .int p2)] := hl
  obtain ⟨hsz, hP, hK, hD0⟩ := hB
  subst hsz
  have hD := hD0.self (sz := s.heap.size)
  generalize hZ : va_A (lW yy B F G) s.heap.size = Z at hD hQ
  have hA : ∀ q : Nat, s.heap.size ≤ q → Z q := fun q h => by rw [← hZ]; exact Or.inr h
  obtain ⟨H, hH⟩ : ∃ z, z = s.heap := ⟨_, rfl⟩
  obtain ⟨locs, hlocs⟩ : ∃ z : List Loc, z = [] := ⟨_, rfl⟩
  have hS : va_S Z s.heap H locs := by rw [hH, hlocs]; exact va_S.rf
  rw [← hH] at hP
  suffices hgo : W p l e rmX10_newBasin s m args below meth c H locs 0 0 Q (F0 m 0 ls []) by rw [hH, hlocs] at hgo; exact hgo
  refine lv_aload_n hx hb (dd_of dX10_newBasin_0 0 rfl) rfl (lv_at hl 0 rfl) ?_
  refine va_get (D := D) (cl := vwCl) (tys := jT yy) (ci := 10) (v := .int (F 8 0)) (C := RX10) (T := TX10) (N := 8) hx hb hts (fun w h => List.mem_cons_of_mem _ (inlX10 w h)) hown hK hP 1 rfl rfl 1 (by decide) (jw hts gw213) (fun _ h9 => h9) rfl (dd_of dX10_newBasin_0 1 rfl) ?_
  refine lv_if_lt (tgt := 19) hx hb (dd_of dX10_newBasin_0 2 rfl) (by decide) (fun c9 => absurd c9 (by rw [hr.1]; exact nI_pos (by have := hr.2; omega))) (fun _ => ?_)
  refine lv_aload_n hx hb (dd_of dX10_newBasin_0 3 rfl) rfl (lv_at hl 0 rfl) ?_
  refine va_get (D := D) (cl := vwCl) (tys := jT yy) (ci := 10) (v := .int (F 8 0)) (C := RX10) (T := TX10) (N := 8) hx hb hts (fun w h => List.mem_cons_of_mem _ (inlX10 w h)) hown hK hP 1 rfl rfl 1 (by decide) (jw hts gw213) (fun _ h9 => h9) rfl (dd_of dX10_newBasin_0 4 rfl) ?_
  refine lv_aload_n hx hb (dd_of dX10_newBasin_0 5 rfl) rfl (lv_at hl 0 rfl) ?_
  refine va_get (D := D) (cl := vwCl) (tys := jT yy) (ci := 10) (v := .ref (B 8)) (C := RX10) (T := TX10) (N := 8) hx hb hts (fun w h => List.mem_cons_of_mem _ (inlX10 w h)) hown hK hP 1 rfl rfl 0 (by decide) (jw hts gw50) (fun _ h9 => h9) rfl (dd_of dX10_newBasin_0 6 rfl) ?_
  refine va_alen (v := 8) hx hb hK hP 9 3 rfl rfl rfl (dd_of dX10_newBasin_0 7 rfl) ?_
  refine lv_icmp_lt (tgt := 21) hx hb (dd_of dX10_newBasin_0 8 rfl) (by decide) (fun _ => ?_) (fun c9 => absurd (show F 8 0 < nI 8 by rw [hr.1]; exact nI_lt hr.2 (by omega)) c9)
  refine lv_aload_n hx hb (dd_of dX10_newBasin_0 11 rfl) rfl (lv_at hl 0 rfl) ?_
  refine va_get (D := D) (cl := vwCl) (tys := jT yy) (ci := 10) (v := .ref (B 8)) (C := RX10) (T := TX10) (N := 8) hx hb hts (fun w h => List.mem_cons_of_mem _ (inlX10 w h)) hown hK hP 1 rfl rfl 0 (by decide) (jw hts gw50) (fun _ h9 => h9) rfl (dd_of dX10_newBasin_0 12 rfl) ?_
  refine lv_aload_n hx hb (dd_of dX10_newBasin_0 13 rfl) rfl (lv_at hl 0 rfl) ?_
  refine va_get (D := D) (cl := vwCl) (tys := jT yy) (ci := 10) (v := .int (F 8 0)) (C := RX10) (T := TX10) (N := 8) hx hb hts (fun w h => List.mem_cons_of_mem _ (inlX10 w h)) hown hK hP 1 rfl rfl 1 (by decide) (jw hts gw213) (fun _ h9 => h9) rfl (dd_of dX10_newBasin_0 14 rfl) ?_
  refine va_new (ci := 0) (fs := [.int 0, .int 0, .long 0, .int 0, .int 0, .int 0, .long 0]) (C := RX0) (T := TX0) (N := 7) hx hb hts (fun w h => List.mem_cons_of_mem _ (inlX0 w h)) tyX0 tyX0_ok hown (jw hts gw49) (jw hts gw214) (jw hts gw215) hK hP hD hS hA rfl (fun j hj => by rcases (show j = 0 ∨ j = 1 ∨ j = 2 ∨ j = 3 ∨ j = 4 ∨ j = 5 ∨ j = 6 by omega) with rfl | rfl | rfl | rfl | rfl | rfl | rfl <;> rfl) (Nat.le_of_ble_eq_true rfl) (Nat.le_of_ble_eq_true rfl) (dd_of dX10_newBasin_0 15 rfl) (fun q H hP hD hS => ?_)
  refine lv_dup hx hb (dd_of dX10_newBasin_0 16 rfl) rfl ?_
  refine lv_iload_n hx hb (dd_of dX10_newBasin_0 17 rfl) rfl (lv_at hl 1 rfl) ?_
  refine lv_iload_n hx hb (dd_of dX10_newBasin_0 18 rfl) rfl (lv_at hl 2 rfl) ?_
  refine jx_p (X := lW yy B F G) (Cw := [(q, .inr (0, [.int 0, .int 0, .long 0, .int 0, .int 0, .int 0, .long 0]))]) (S0 := Nat → Nat) (w1 := fun _ => [(q, .inr (0, [.int (if 1 ≤ p1 then p1 else 1), .int p2, .long 0, .int 0, .int 100, .int 0, .long 0]))]) (As := [.int p1, .int p2]) (rest := [.ref q, .int (F 8 0), .ref (B 8)]) (D := D) (yy := yy) ⟨hx, hb, hml, hown, hts⟩ (qX0_init l D yy q H.size p1 p2) (cwI 2 hts (jgI gw218) rfl rfl rfl (jw hts gw215) (jw hts gw216) (jw hts gw217) rfl (by decide +kernel) ⟨Nat.le_of_ble_eq_true rfl, Nat.le_of_ble_eq_true rfl⟩) hP hK hD hS hA rfl hl.1 rfl (Nat.le_of_ble_eq_true rfl) (dd_of dX10_newBasin_0 19 rfl) ⟨Nat.le_of_ble_eq_true rfl, Nat.le_of_ble_eq_true rfl⟩ (fun _ H locs _ hP hD hS => ?_)
  refine va_astq (r := (RX0, TX0, 7)) hx hb hK hP hD hS 9 3 ((lW yy B F G).length + 0) 0 rfl rfl (ap_get (i := 0) rfl) rfl (show vp_in (F 8 0) 8 by rw [hr.1]; exact vp_in_nI hr.2 (by omega)) (dd_of dX10_newBasin_0 20 rfl) (fun H locs hP hD hS => ?_)
  have hP : va_P D vwCl ((lW yy B F G ++ ([(q, .inr (0, [.int (if 1 ≤ p1 then p1 else 1), .int p2, .long 0, .int 0, .int 100, .int 0, .long 0]))] : va_W)).set 9 (B 8, .inl (yy 3, 8, .inr (.inr (.inr (.inr (va_up (fun i => oB B 100 (op (cn F 8) i)) (Int32.toNatClampNeg (F 8 0)) (some q)))))))) H := hP
  have hD : va_D Z ((lW yy B F G ++ ([(q, .inr (0, [.int (if 1 ≤ p1 then p1 else 1), .int p2, .long 0, .int 0, .int 100, .int 0, .long 0]))] : va_W)).set 9 (B 8, .inl (yy 3, 8, .inr (.inr (.inr (.inr (va_up (fun i => oB B 100 (op (cn F 8) i)) (Int32.toNatClampNeg (F 8 0)) (some q)))))))) := hD
  refine lv_aload_n hx hb (dd_of dX10_newBasin_0 21 rfl) rfl (lv_at hl 0 rfl) ?_
  refine lv_dup hx hb (dd_of dX10_newBasin_0 22 rfl) rfl ?_
  refine va_get (D := D) (cl := vwCl) (tys := jT yy) (ci := 10) (v := .int (F 8 0)) (C := RX10) (T := TX10) (N := 8) hx hb hts (fun w h => List.mem_cons_of_mem _ (inlX10 w h)) hown hK hP 1 rfl rfl 1 (by decide) (jw hts gw213) (fun _ h9 => h9) rfl (dd_of dX10_newBasin_0 23 rfl) ?_
  refine lv_dup_x1 hx hb (dd_of dX10_newBasin_0 24 rfl) rfl rfl ?_
  refine lv_iconst (v := 1) hx hb (dd_of dX10_newBasin_0 25 rfl) (by decide) ?_
  refine lv_iadd hx hb (dd_of dX10_newBasin_0 26 rfl) ?_
  refine va_put (D := D) (cl := vwCl) (tys := jT yy) (ci := 10) (v := .int (F 8 0 + 1)) (ty := .int) (C := RX10) (T := TX10) (N := 8) hx hb hts (fun w h => List.mem_cons_of_mem _ (inlX10 w h)) tyX10 tyX10_ok nmX10 hown hK hP hD hS 1 rfl rfl 1 (by decide) (jw hts gw213) (fun _ h9 => h9) rfl (by decide +kernel) rfl rfl (Nat.le_of_ble_eq_true rfl) (dd_of dX10_newBasin_0 27 rfl) (fun H locs hP hD hS => ?_)
  have hP : va_P D vwCl (((lW yy B F G ++ ([(q, .inr (0, [.int (if 1 ≤ p1 then p1 else 1), .int p2, .long 0, .int 0, .int 100, .int 0, .long 0]))] : va_W)).set 9 (B 8, .inl (yy 3, 8, .inr (.inr (.inr (.inr (va_up (fun i => oB B 100 (op (cn F 8) i)) (Int32.toNatClampNeg (F 8 0)) (some q)))))))).set 1 (B 1, .inr (10, [.ref (B 8), .int (F 8 0 + 1), .ref (B 9), .ref (B 10), .int (F 44 0), .ref (B 11), .int (F 0 0), .long (G 69 0)]))) H := hP
  have hD : va_D Z (((lW yy B F G ++ ([(q, .inr (0, [.int (if 1 ≤ p1 then p1 else 1), .int p2, .long 0, .int 0, .int 100, .int 0, .long 0]))] : va_W)).set 9 (B 8, .inl (yy 3, 8, .inr (.inr (.inr (.inr (va_up (fun i => oB B 100 (op (cn F 8) i)) (Int32.toNatClampNeg (F 8 0)) (some q)))))))).set 1 (B 1, .inr (10, [.ref (B 8), .int (F 8 0 + 1), .ref (B 9), .ref (B 10), .int (F 44 0), .ref (B 11), .int (F 0 0), .long (G 69 0)]))) := hD
  obtain ⟨B1, hB1, hP, hD⟩ := lW_grow_basin hk hr hP hD
  subst hQ
  exact W.iret (v := F 8 0) hx hb hr9 (fun t ht hW => ⟨⟨F 8 0, (B1, ((u2 (u2 (u2 (u2 (u2 (u2 F 9 (cn F 8) (if 1 ≤ p1 then p1 else 1)) 10 (cn F 8) p2) 11 (cn F 8) 0) 12 (cn F 8) 100) 13 (cn F 8) 0) 8 0 (F 8 0 + 1)), (u2 (u2 G 14 (cn F 8) 0) 15 (cn F 8) 0))), rfl, ⟨rfl, hB1⟩, by rw [ht]; exact hP, va_K.moved hW.alike hK, hD⟩, hS.F ht⟩) hS.2.2 (dd_of dX10_newBasin_0 28 rfl) hlk
set_option maxHeartbeats 4000000 in
set_option maxRecDepth 100000 in
theorem qX6_addStorm (l : Launch) (D : va_G) (yy : Nat → ClassId) (B : Nat → Nat) (F : jF) (G : jG) (sz : Nat) (p1 p2 p3 : Int32) (hk : lK F) (hr : lroom F 40 12) : Met l yX6_addStorm (Cond.code yX6_addStorm cX6_addStorm 4 (some .int) :: wsL_law) rmX6_addStorm (va_Pc [.ref (B 9), .int p1, .int p2, .int p3] (jP D yy (lW yy B F G) sz)) (va_Qi (fun r (u : (Nat → Nat) × jS) => (r, u.2) = gX6_addStorm F G p1 p2 p3 ∧ ∀ k, k < 100 → u.1 k = B k) (fun u t => jB D yy (va_A (lW yy B F G) sz) (lW yy u.1 u.2.1 u.2.2) t) (va_A (lW yy B F G) sz)) 1 4 (va_A (lW yy B F G) sz) := by
  refine jM (vs := [.ref (B 9), .int p1, .int p2, .int p3]) (own := RX6) (by decide) rfl (Nat.le_of_ble_eq_true rfl) ?_
  intro p e s m args below meth c ls Q hQ hargs S hr9 hlk hinit hB hl
  obtain ⟨hx, hb, hml, hown, hts⟩ := S
  have hl : lv_has ls 4 [(0, .ref (B 9)), (1, .int p1), (2, .int p2), (3, .int p3)] := hl
  obtain ⟨hsz, hP, hK, hD0⟩ := hB
  subst hsz
  have hD := hD0.self (sz := s.heap.size)
  generalize hZ : va_A (lW yy B F G) s.heap.size = Z at hD hQ
  have hA : ∀ q : Nat, s.heap.size ≤ q → Z q := fun q h => by rw [← hZ]; exact Or.inr h
  obtain ⟨H, hH⟩ : ∃ z, z = s.heap := ⟨_, rfl⟩
  obtain ⟨locs, hlocs⟩ : ∃ z : List Loc, z = [] := ⟨_, rfl⟩
  have hS : va_S Z s.heap H locs := by rw [hH, hlocs]; exact va_S.rf
  rw [← hH] at hP
  suffices hgo : W p l e rmX6_addStorm s m args below meth c H locs 0 0 Q (F0 m 0 ls []) by rw [hH, hlocs] at hgo; exact hgo
  refine lv_aload_n hx hb (dd_of dX6_addStorm_0 0 rfl) rfl (lv_at hl 0 rfl) ?_
  refine va_get (D := D) (cl := vwCl) (tys := jT yy) (ci := 6) (v := .int (F 40 0)) (C := RX6) (T := TX6) (N := 6) hx hb hts (fun w h => List.mem_cons_of_mem _ (inlX6 w h)) hown hK hP 4 rfl rfl 5 (by decide) (jw hts gw320) (fun _ h9 => h9) rfl (dd_of dX6_addStorm_0 1 rfl) ?_
  refine lv_if_lt (tgt := 19) hx hb (dd_of dX6_addStorm_0 2 rfl) (by decide) (fun c9 => absurd c9 (by rw [hr.1]; exact nI_pos (by have := hr.2; omega))) (fun _ => ?_)
  refine lv_aload_n hx hb (dd_of dX6_addStorm_0 3 rfl) rfl (lv_at hl 0 rfl) ?_
  refine va_get (D := D) (cl := vwCl) (tys := jT yy) (ci := 6) (v := .int (F 40 0)) (C := RX6) (T := TX6) (N := 6) hx hb hts (fun w h => List.mem_cons_of_mem _ (inlX6 w h)) hown hK hP 4 rfl rfl 5 (by decide) (jw hts gw320) (fun _ h9 => h9) rfl (dd_of dX6_addStorm_0 4 rfl) ?_
  refine lv_aload_n hx hb (dd_of dX6_addStorm_0 5 rfl) rfl (lv_at hl 0 rfl) ?_
  refine va_get (D := D) (cl := vwCl) (tys := jT yy) (ci := 6) (v := .ref (B 19)) (C := RX6) (T := TX6) (N := 6) hx hb hts (fun w h => List.mem_cons_of_mem _ (inlX6 w h)) hown hK hP 4 rfl rfl 4 (by decide) (jw hts gw65) (fun _ h9 => h9) rfl (dd_of dX6_addStorm_0 6 rfl) ?_
  refine va_alen (v := 12) hx hb hK hP 19 8 rfl rfl rfl (dd_of dX6_addStorm_0 7 rfl) ?_
  refine lv_icmp_lt (tgt := 24) hx hb (dd_of dX6_addStorm_0 8 rfl) (by decide) (fun _ => ?_) (fun c9 => absurd (show F 40 0 < nI 12 by rw [hr.1]; exact nI_lt hr.2 (by omega)) c9)
  refine lv_aload_n hx hb (dd_of dX6_addStorm_0 12 rfl) rfl (lv_at hl 0 rfl) ?_
  refine va_get (D := D) (cl := vwCl) (tys := jT yy) (ci := 6) (v := .ref (B 19)) (C := RX6) (T := TX6) (N := 6) hx hb hts (fun w h => List.mem_cons_of_mem _ (inlX6 w h)) hown hK hP 4 rfl rfl 4 (by decide) (jw hts gw65) (fun _ h9 => h9) rfl (dd_of dX6_addStorm_0 13 rfl) ?_
  refine lv_aload_n hx hb (dd_of dX6_addStorm_0 14 rfl) rfl (lv_at hl 0 rfl) ?_
  refine va_get (D := D) (cl := vwCl) (tys := jT yy) (ci := 6) (v := .int (F 40 0)) (C := RX6) (T := TX6) (N := 6) hx hb hts (fun w h => List.mem_cons_of_mem _ (inlX6 w h)) hown hK hP 4 rfl rfl 5 (by decide) (jw hts gw320) (fun _ h9 => h9) rfl (dd_of dX6_addStorm_0 15 rfl) ?_
  refine va_new (ci := 9) (fs := [.int 0, .int 0, .int 0, .int 0]) (C := RX9) (T := TX9) (N := 4) hx hb hts (fun w h => List.mem_cons_of_mem _ (inlX9 w h)) tyX9 tyX9_ok hown (jw hts gw64) (jw hts gw321) (jw hts gw87) hK hP hD hS hA rfl (fun j hj => by rcases (show j = 0 ∨ j = 1 ∨ j = 2 ∨ j = 3 by omega) with rfl | rfl | rfl | rfl <;> rfl) (Nat.le_of_ble_eq_true rfl) (Nat.le_of_ble_eq_true rfl) (dd_of dX6_addStorm_0 16 rfl) (fun q H hP hD hS => ?_)
  refine lv_dup hx hb (dd_of dX6_addStorm_0 17 rfl) rfl ?_
  refine lv_iload_n hx hb (dd_of dX6_addStorm_0 18 rfl) rfl (lv_at hl 1 rfl) ?_
  refine lv_iload_n hx hb (dd_of dX6_addStorm_0 19 rfl) rfl (lv_at hl 2 rfl) ?_
  refine lv_iload_n hx hb (dd_of dX6_addStorm_0 20 rfl) rfl (lv_at hl 3 rfl) ?_
  refine lv_iconst (v := (-1)) hx hb (dd_of dX6_addStorm_0 21 rfl) (by decide) ?_
  refine jx_p (X := lW yy B F G) (Cw := [(q, .inr (9, [.int 0, .int 0, .int 0, .int 0]))]) (S0 := Nat → Nat) (w1 := fun _ => [(q, .inr (9, [.int p1, .int p2, .int p3, .int (-1)]))]) (As := [.int p1, .int p2, .int p3, .int (-1)]) (rest := [.ref q, .int (F 40 0), .ref (B 19)]) (D := D) (yy := yy) ⟨hx, hb, hml, hown, hts⟩ (qX9_init l D yy q H.size p1 p2 p3 (-1)) (cwI 4 hts (jgI gw324) rfl rfl rfl (jw hts gw87) (jw hts gw322) (jw hts gw323) rfl (by decide +kernel) ⟨Nat.le_of_ble_eq_true rfl, Nat.le_of_ble_eq_true rfl⟩) hP hK hD hS hA rfl hl.1 rfl (Nat.le_of_ble_eq_true rfl) (dd_of dX6_addStorm_0 22 rfl) ⟨Nat.le_of_ble_eq_true rfl, Nat.le_of_ble_eq_true rfl⟩ (fun _ H locs _ hP hD hS => ?_)
  refine va_astq (r := (RX9, TX9, 4)) hx hb hK hP hD hS 19 8 ((lW yy B F G).length + 0) 9 rfl rfl (ap_get (i := 0) rfl) rfl (show vp_in (F 40 0) 12 by rw [hr.1]; exact vp_in_nI hr.2 (by omega)) (dd_of dX6_addStorm_0 23 rfl) (fun H locs hP hD hS => ?_)
  have hP : va_P D vwCl ((lW yy B F G ++ ([(q, .inr (9, [.int p1, .int p2, .int p3, .int (-1)]))] : va_W)).set 19 (B 19, .inl (yy 8, 12, .inr (.inr (.inr (.inr (va_up (fun i => oB B 500 (op (cn F 40) i)) (Int32.toNatClampNeg (F 40 0)) (some q)))))))) H := hP
  have hD : va_D Z ((lW yy B F G ++ ([(q, .inr (9, [.int p1, .int p2, .int p3, .int (-1)]))] : va_W)).set 19 (B 19, .inl (yy 8, 12, .inr (.inr (.inr (.inr (va_up (fun i => oB B 500 (op (cn F 40) i)) (Int32.toNatClampNeg (F 40 0)) (some q)))))))) := hD
  refine lv_aload_n hx hb (dd_of dX6_addStorm_0 24 rfl) rfl (lv_at hl 0 rfl) ?_
  refine lv_dup hx hb (dd_of dX6_addStorm_0 25 rfl) rfl ?_
  refine va_get (D := D) (cl := vwCl) (tys := jT yy) (ci := 6) (v := .int (F 40 0)) (C := RX6) (T := TX6) (N := 6) hx hb hts (fun w h => List.mem_cons_of_mem _ (inlX6 w h)) hown hK hP 4 rfl rfl 5 (by decide) (jw hts gw320) (fun _ h9 => h9) rfl (dd_of dX6_addStorm_0 26 rfl) ?_
  refine lv_iconst (v := 1) hx hb (dd_of dX6_addStorm_0 27 rfl) (by decide) ?_
  refine lv_iadd hx hb (dd_of dX6_addStorm_0 28 rfl) ?_
  refine va_put (D := D) (cl := vwCl) (tys := jT yy) (ci := 6) (v := .int (F 40 0 + 1)) (ty := .int) (C := RX6) (T := TX6) (N := 6) hx hb hts (fun w h => List.mem_cons_of_mem _ (inlX6 w h)) tyX6 tyX6_ok nmX6 hown hK hP hD hS 4 rfl rfl 5 (by decide) (jw hts gw320) (fun _ h9 => h9) rfl (by decide +kernel) rfl rfl (Nat.le_of_ble_eq_true rfl) (dd_of dX6_addStorm_0 29 rfl) (fun H locs hP hD hS => ?_)
  have hP : va_P D vwCl (((lW yy B F G ++ ([(q, .inr (9, [.int p1, .int p2, .int p3, .int (-1)]))] : va_W)).set 19 (B 19, .inl (yy 8, 12, .inr (.inr (.inr (.inr (va_up (fun i => oB B 500 (op (cn F 40) i)) (Int32.toNatClampNeg (F 40 0)) (some q)))))))).set 4 (B 9, .inr (6, [.int (F 5 0), .int (F 6 0), .int (F 7 0), .int (F 4 0), .ref (B 19), .int (F 40 0 + 1)]))) H := hP
  have hD : va_D Z (((lW yy B F G ++ ([(q, .inr (9, [.int p1, .int p2, .int p3, .int (-1)]))] : va_W)).set 19 (B 19, .inl (yy 8, 12, .inr (.inr (.inr (.inr (va_up (fun i => oB B 500 (op (cn F 40) i)) (Int32.toNatClampNeg (F 40 0)) (some q)))))))).set 4 (B 9, .inr (6, [.int (F 5 0), .int (F 6 0), .int (F 7 0), .int (F 4 0), .ref (B 19), .int (F 40 0 + 1)]))) := hD
  refine lv_aload_n hx hb (dd_of dX6_addStorm_0 30 rfl) rfl (lv_at hl 0 rfl) ?_
  refine va_get (D := D) (cl := vwCl) (tys := jT yy) (ci := 6) (v := .int (F 40 0 + 1)) (C := RX6) (T := TX6) (N := 6) hx hb hts (fun w h => List.mem_cons_of_mem _ (inlX6 w h)) hown hK hP 4 rfl rfl 5 (by decide) (jw hts gw320) (fun _ h9 => h9) rfl (dd_of dX6_addStorm_0 31 rfl) ?_
  obtain ⟨B1, hB1, hP, hD⟩ := lW_grow_storm hk hr hP hD
  subst hQ
  exact W.iret (v := F 40 0 + 1) hx hb hr9 (fun t ht hW => ⟨⟨F 40 0 + 1, (B1, ((u2 (u2 (u2 (u2 (u2 F 41 (cn F 40) p1) 42 (cn F 40) p2) 43 (cn F 40) p3) 63 (cn F 40) (-1)) 40 0 (F 40 0 + 1)), G)), rfl, ⟨rfl, hB1⟩, by rw [ht]; exact hP, va_K.moved hW.alike hK, hD⟩, hS.F ht⟩) hS.2.2 (dd_of dX6_addStorm_0 32 rfl) hlk
set_option maxHeartbeats 4000000 in
set_option maxRecDepth 100000 in
theorem qX10_tellRain (l : Launch) (D : va_G) (yy : Nat → ClassId) (B : Nat → Nat) (F : jF) (G : jG) (sz : Nat) (p1 p2 p3 p4 : Int32) (hk : lK F) (hr : lroom F 44 12) : Met l yX10_tellRain (Cond.code yX10_tellRain cX10_tellRain 5 (some .int) :: wsL_law) rmX10_tellRain (va_Pc [.ref (B 1), .int p1, .int p2, .int p3, .int p4] (jP D yy (lW yy B F G) sz)) (va_Qi (fun r (u : (Nat → Nat) × jS) => (r, u.2) = gX10_tellRain F G p1 p2 p3 p4 ∧ ∀ k, k < 100 → u.1 k = B k) (fun u t => jB D yy (va_A (lW yy B F G) sz) (lW yy u.1 u.2.1 u.2.2) t) (va_A (lW yy B F G) sz)) 1 4 (va_A (lW yy B F G) sz) := by
  refine jM (vs := [.ref (B 1), .int p1, .int p2, .int p3, .int p4]) (own := RX10) (by decide) rfl (Nat.le_of_ble_eq_true rfl) ?_
  intro p e s m args below meth c ls Q hQ hargs S hr9 hlk hinit hB hl
  obtain ⟨hx, hb, hml, hown, hts⟩ := S
  have hl : lv_has ls 5 [(0, .ref (B 1)), (1, .int p1), (2, .int p2), (3, .int p3), (4, .int p4)] := hl
  obtain ⟨hsz, hP, hK, hD0⟩ := hB
  subst hsz
  have hD := hD0.self (sz := s.heap.size)
  generalize hZ : va_A (lW yy B F G) s.heap.size = Z at hD hQ
  have hA : ∀ q : Nat, s.heap.size ≤ q → Z q := fun q h => by rw [← hZ]; exact Or.inr h
  obtain ⟨H, hH⟩ : ∃ z, z = s.heap := ⟨_, rfl⟩
  obtain ⟨locs, hlocs⟩ : ∃ z : List Loc, z = [] := ⟨_, rfl⟩
  have hS : va_S Z s.heap H locs := by rw [hH, hlocs]; exact va_S.rf
  rw [← hH] at hP
  suffices hgo : W p l e rmX10_tellRain s m args below meth c H locs 0 0 Q (F0 m 0 ls []) by rw [hH, hlocs] at hgo; exact hgo
  refine lv_aload_n hx hb (dd_of dX10_tellRain_0 0 rfl) rfl (lv_at hl 0 rfl) ?_
  refine va_get (D := D) (cl := vwCl) (tys := jT yy) (ci := 10) (v := .int (F 44 0)) (C := RX10) (T := TX10) (N := 8) hx hb hts (fun w h => List.mem_cons_of_mem _ (inlX10 w h)) hown hK hP 1 rfl rfl 4 (by decide) (jw hts gw331) (fun _ h9 => h9) rfl (dd_of dX10_tellRain_0 1 rfl) ?_
  refine lv_if_lt (tgt := 19) hx hb (dd_of dX10_tellRain_0 2 rfl) (by decide) (fun c9 => absurd c9 (by rw [hr.1]; exact nI_pos (by have := hr.2; omega))) (fun _ => ?_)
  refine lv_aload_n hx hb (dd_of dX10_tellRain_0 3 rfl) rfl (lv_at hl 0 rfl) ?_
  refine va_get (D := D) (cl := vwCl) (tys := jT yy) (ci := 10) (v := .int (F 44 0)) (C := RX10) (T := TX10) (N := 8) hx hb hts (fun w h => List.mem_cons_of_mem _ (inlX10 w h)) hown hK hP 1 rfl rfl 4 (by decide) (jw hts gw331) (fun _ h9 => h9) rfl (dd_of dX10_tellRain_0 4 rfl) ?_
  refine lv_aload_n hx hb (dd_of dX10_tellRain_0 5 rfl) rfl (lv_at hl 0 rfl) ?_
  refine va_get (D := D) (cl := vwCl) (tys := jT yy) (ci := 10) (v := .ref (B 10)) (C := RX10) (T := TX10) (N := 8) hx hb hts (fun w h => List.mem_cons_of_mem _ (inlX10 w h)) hown hK hP 1 rfl rfl 3 (by decide) (jw hts gw56) (fun _ h9 => h9) rfl (dd_of dX10_tellRain_0 6 rfl) ?_
  refine va_alen (v := 12) hx hb hK hP 10 8 rfl rfl rfl (dd_of dX10_tellRain_0 7 rfl) ?_
  refine lv_icmp_lt (tgt := 24) hx hb (dd_of dX10_tellRain_0 8 rfl) (by decide) (fun _ => ?_) (fun c9 => absurd (show F 44 0 < nI 12 by rw [hr.1]; exact nI_lt hr.2 (by omega)) c9)
  refine lv_aload_n hx hb (dd_of dX10_tellRain_0 12 rfl) rfl (lv_at hl 0 rfl) ?_
  refine va_get (D := D) (cl := vwCl) (tys := jT yy) (ci := 10) (v := .ref (B 10)) (C := RX10) (T := TX10) (N := 8) hx hb hts (fun w h => List.mem_cons_of_mem _ (inlX10 w h)) hown hK hP 1 rfl rfl 3 (by decide) (jw hts gw56) (fun _ h9 => h9) rfl (dd_of dX10_tellRain_0 13 rfl) ?_
  refine lv_aload_n hx hb (dd_of dX10_tellRain_0 14 rfl) rfl (lv_at hl 0 rfl) ?_
  refine va_get (D := D) (cl := vwCl) (tys := jT yy) (ci := 10) (v := .int (F 44 0)) (C := RX10) (T := TX10) (N := 8) hx hb hts (fun w h => List.mem_cons_of_mem _ (inlX10 w h)) hown hK hP 1 rfl rfl 4 (by decide) (jw hts gw331) (fun _ h9 => h9) rfl (dd_of dX10_tellRain_0 15 rfl) ?_
  refine va_new (ci := 9) (fs := [.int 0, .int 0, .int 0, .int 0]) (C := RX9) (T := TX9) (N := 4) hx hb hts (fun w h => List.mem_cons_of_mem _ (inlX9 w h)) tyX9 tyX9_ok hown (jw hts gw55) (jw hts gw321) (jw hts gw87) hK hP hD hS hA rfl (fun j hj => by rcases (show j = 0 ∨ j = 1 ∨ j = 2 ∨ j = 3 by omega) with rfl | rfl | rfl | rfl <;> rfl) (Nat.le_of_ble_eq_true rfl) (Nat.le_of_ble_eq_true rfl) (dd_of dX10_tellRain_0 16 rfl) (fun q H hP hD hS => ?_)
  refine lv_dup hx hb (dd_of dX10_tellRain_0 17 rfl) rfl ?_
  refine lv_iload_n hx hb (dd_of dX10_tellRain_0 18 rfl) rfl (lv_at hl 2 rfl) ?_
  refine lv_iload_n hx hb (dd_of dX10_tellRain_0 19 rfl) rfl (lv_at hl 3 rfl) ?_
  refine lv_iload hx hb (dd_of dX10_tellRain_0 20 rfl) (lv_at hl 4 rfl) ?_
  refine lv_iload_n hx hb (dd_of dX10_tellRain_0 21 rfl) rfl (lv_at hl 1 rfl) ?_
  refine jx_p (X := lW yy B F G) (Cw := [(q, .inr (9, [.int 0, .int 0, .int 0, .int 0]))]) (S0 := Nat → Nat) (w1 := fun _ => [(q, .inr (9, [.int p2, .int p3, .int p4, .int p1]))]) (As := [.int p2, .int p3, .int p4, .int p1]) (rest := [.ref q, .int (F 44 0), .ref (B 10)]) (D := D) (yy := yy) ⟨hx, hb, hml, hown, hts⟩ (qX9_init l D yy q H.size p2 p3 p4 p1) (cwI 4 hts (jgI gw324) rfl rfl rfl (jw hts gw87) (jw hts gw332) (jw hts gw323) rfl (by decide +kernel) ⟨Nat.le_of_ble_eq_true rfl, Nat.le_of_ble_eq_true rfl⟩) hP hK hD hS hA rfl hl.1 rfl (Nat.le_of_ble_eq_true rfl) (dd_of dX10_tellRain_0 22 rfl) ⟨Nat.le_of_ble_eq_true rfl, Nat.le_of_ble_eq_true rfl⟩ (fun _ H locs _ hP hD hS => ?_)
  refine va_astq (r := (RX9, TX9, 4)) hx hb hK hP hD hS 10 8 ((lW yy B F G).length + 0) 9 rfl rfl (ap_get (i := 0) rfl) rfl (show vp_in (F 44 0) 12 by rw [hr.1]; exact vp_in_nI hr.2 (by omega)) (dd_of dX10_tellRain_0 23 rfl) (fun H locs hP hD hS => ?_)
  have hP : va_P D vwCl ((lW yy B F G ++ ([(q, .inr (9, [.int p2, .int p3, .int p4, .int p1]))] : va_W)).set 10 (B 10, .inl (yy 8, 12, .inr (.inr (.inr (.inr (va_up (fun i => oB B 600 (op (cn F 44) i)) (Int32.toNatClampNeg (F 44 0)) (some q)))))))) H := hP
  have hD : va_D Z ((lW yy B F G ++ ([(q, .inr (9, [.int p2, .int p3, .int p4, .int p1]))] : va_W)).set 10 (B 10, .inl (yy 8, 12, .inr (.inr (.inr (.inr (va_up (fun i => oB B 600 (op (cn F 44) i)) (Int32.toNatClampNeg (F 44 0)) (some q)))))))) := hD
  refine lv_aload_n hx hb (dd_of dX10_tellRain_0 24 rfl) rfl (lv_at hl 0 rfl) ?_
  refine lv_dup hx hb (dd_of dX10_tellRain_0 25 rfl) rfl ?_
  refine va_get (D := D) (cl := vwCl) (tys := jT yy) (ci := 10) (v := .int (F 44 0)) (C := RX10) (T := TX10) (N := 8) hx hb hts (fun w h => List.mem_cons_of_mem _ (inlX10 w h)) hown hK hP 1 rfl rfl 4 (by decide) (jw hts gw331) (fun _ h9 => h9) rfl (dd_of dX10_tellRain_0 26 rfl) ?_
  refine lv_iconst (v := 1) hx hb (dd_of dX10_tellRain_0 27 rfl) (by decide) ?_
  refine lv_iadd hx hb (dd_of dX10_tellRain_0 28 rfl) ?_
  refine va_put (D := D) (cl := vwCl) (tys := jT yy) (ci := 10) (v := .int (F 44 0 + 1)) (ty := .int) (C := RX10) (T := TX10) (N := 8) hx hb hts (fun w h => List.mem_cons_of_mem _ (inlX10 w h)) tyX10 tyX10_ok nmX10 hown hK hP hD hS 1 rfl rfl 4 (by decide) (jw hts gw331) (fun _ h9 => h9) rfl (by decide +kernel) rfl rfl (Nat.le_of_ble_eq_true rfl) (dd_of dX10_tellRain_0 29 rfl) (fun H locs hP hD hS => ?_)
  have hP : va_P D vwCl (((lW yy B F G ++ ([(q, .inr (9, [.int p2, .int p3, .int p4, .int p1]))] : va_W)).set 10 (B 10, .inl (yy 8, 12, .inr (.inr (.inr (.inr (va_up (fun i => oB B 600 (op (cn F 44) i)) (Int32.toNatClampNeg (F 44 0)) (some q)))))))).set 1 (B 1, .inr (10, [.ref (B 8), .int (F 8 0), .ref (B 9), .ref (B 10), .int (F 44 0 + 1), .ref (B 11), .int (F 0 0), .long (G 69 0)]))) H := hP
  have hD : va_D Z (((lW yy B F G ++ ([(q, .inr (9, [.int p2, .int p3, .int p4, .int p1]))] : va_W)).set 10 (B 10, .inl (yy 8, 12, .inr (.inr (.inr (.inr (va_up (fun i => oB B 600 (op (cn F 44) i)) (Int32.toNatClampNeg (F 44 0)) (some q)))))))).set 1 (B 1, .inr (10, [.ref (B 8), .int (F 8 0), .ref (B 9), .ref (B 10), .int (F 44 0 + 1), .ref (B 11), .int (F 0 0), .long (G 69 0)]))) := hD
  refine lv_aload_n hx hb (dd_of dX10_tellRain_0 30 rfl) rfl (lv_at hl 0 rfl) ?_
  refine va_get (D := D) (cl := vwCl) (tys := jT yy) (ci := 10) (v := .int (F 44 0 + 1)) (C := RX10) (T := TX10) (N := 8) hx hb hts (fun w h => List.mem_cons_of_mem _ (inlX10 w h)) hown hK hP 1 rfl rfl 4 (by decide) (jw hts gw331) (fun _ h9 => h9) rfl (dd_of dX10_tellRain_0 31 rfl) ?_
  obtain ⟨B1, hB1, hP, hD⟩ := lW_grow_rain hk hr hP hD
  subst hQ
  exact W.iret (v := F 44 0 + 1) hx hb hr9 (fun t ht hW => ⟨⟨F 44 0 + 1, (B1, ((u2 (u2 (u2 (u2 (u2 F 46 (cn F 44) p2) 47 (cn F 44) p3) 48 (cn F 44) p4) 45 (cn F 44) p1) 44 0 (F 44 0 + 1)), G)), rfl, ⟨rfl, hB1⟩, by rw [ht]; exact hP, va_K.moved hW.alike hK, hD⟩, hS.F ht⟩) hS.2.2 (dd_of dX10_tellRain_0 32 rfl) hlk
set_option maxHeartbeats 4000000 in
set_option maxRecDepth 100000 in
theorem qX5_newPump (l : Launch) (D : va_G) (yy : Nat → ClassId) (B : Nat → Nat) (F : jF) (G : jG) (sz : Nat) (q : Nat) (p1 p2 p3 p4 p5 : Int32) (hk : lK F) (hr : lroom F 23 8) : Met l yX5_newPump (Cond.code yX5_newPump cX5_newPump 2 (some .int) :: wsL_law) rmX5_newPump (va_Pc [.ref (B 0), .ref q] (jP D yy (lW yy B F G ++ ([(q, .inr (7, [.int p1, .int p2, .int p3, .int p4, .int p5, .int 0, .int 0, .int 0]))] : va_W)) sz)) (va_Qi (fun r (u : (Nat → Nat) × jS) => (r, u.2) = gX5_newPump F G p1 p2 p3 p4 p5 ∧ ∀ k, k < 100 → u.1 k = B k) (fun u t => jB D yy (va_A (lW yy B F G ++ ([(q, .inr (7, [.int p1, .int p2, .int p3, .int p4, .int p5, .int 0, .int 0, .int 0]))] : va_W)) sz) (lW yy u.1 u.2.1 u.2.2) t) (va_A (lW yy B F G ++ ([(q, .inr (7, [.int p1, .int p2, .int p3, .int p4, .int p5, .int 0, .int 0, .int 0]))] : va_W)) sz)) 0 0 (va_A (lW yy B F G ++ ([(q, .inr (7, [.int p1, .int p2, .int p3, .int p4, .int p5, .int 0, .int 0, .int 0]))] : va_W)) sz) := by
  refine jM (vs := [.ref (B 0), .ref q]) (own := RX5) (by decide) rfl (Nat.le_of_ble_eq_true rfl) ?_
  intro p e s m args below meth c ls Q hQ hargs S hr9 hlk hinit hB hl
  obtain ⟨hx, hb, hml, hown, hts⟩ := S
  have hl : lv_has ls 2 [(0, .ref (B 0)), (1, .ref q)] := hl
  obtain ⟨hsz, hP, hK, hD0⟩ := hB
  subst hsz
  have hD := hD0.self (sz := s.heap.size)
  generalize hZ : va_A (lW yy B F G ++ ([(q, .inr (7, [.int p1, .int p2, .int p3, .int p4, .int p5, .int 0, .int 0, .int 0]))] : va_W)) s.heap.size = Z at hD hQ
  have hA : ∀ q : Nat, s.heap.size ≤ q → Z q := fun q h => by rw [← hZ]; exact Or.inr h
  obtain ⟨H, hH⟩ : ∃ z, z = s.heap := ⟨_, rfl⟩
  obtain ⟨locs, hlocs⟩ : ∃ z : List Loc, z = [] := ⟨_, rfl⟩
  have hS : va_S Z s.heap H locs := by rw [hH, hlocs]; exact va_S.rf
  rw [← hH] at hP
  suffices hgo : W p l e rmX5_newPump s m args below meth c H locs 0 0 Q (F0 m 0 ls []) by rw [hH, hlocs] at hgo; exact hgo
  refine lv_aload_n hx hb (dd_of dX5_newPump_0 0 rfl) rfl (lv_at hl 0 rfl) ?_
  refine va_get (D := D) (cl := vwCl) (tys := jT yy) (ci := 5) (v := .int (F 23 0)) (C := RX5) (T := TX5) (N := 10) hx hb hts (fun w h => List.mem_cons_of_mem _ (inlX5 w h)) hown hK hP 0 rfl rfl 5 (by decide) (jw hts gw287) (fun _ h9 => h9) rfl (dd_of dX5_newPump_0 1 rfl) ?_
  refine lv_if_lt (tgt := 19) hx hb (dd_of dX5_newPump_0 2 rfl) (by decide) (fun c9 => absurd c9 (by rw [hr.1]; exact nI_pos (by have := hr.2; omega))) (fun _ => ?_)
  refine lv_aload_n hx hb (dd_of dX5_newPump_0 3 rfl) rfl (lv_at hl 0 rfl) ?_
  refine va_get (D := D) (cl := vwCl) (tys := jT yy) (ci := 5) (v := .int (F 23 0)) (C := RX5) (T := TX5) (N := 10) hx hb hts (fun w h => List.mem_cons_of_mem _ (inlX5 w h)) hown hK hP 0 rfl rfl 5 (by decide) (jw hts gw287) (fun _ h9 => h9) rfl (dd_of dX5_newPump_0 4 rfl) ?_
  refine lv_aload_n hx hb (dd_of dX5_newPump_0 5 rfl) rfl (lv_at hl 0 rfl) ?_
  refine va_get (D := D) (cl := vwCl) (tys := jT yy) (ci := 5) (v := .ref (B 4)) (C := RX5) (T := TX5) (N := 10) hx hb hts (fun w h => List.mem_cons_of_mem _ (inlX5 w h)) hown hK hP 0 rfl rfl 4 (by decide) (jw hts gw35) (fun _ h9 => h9) rfl (dd_of dX5_newPump_0 6 rfl) ?_
  refine va_alen (v := 8) hx hb hK hP 6 7 rfl rfl rfl (dd_of dX5_newPump_0 7 rfl) ?_
  refine lv_icmp_lt (tgt := 21) hx hb (dd_of dX5_newPump_0 8 rfl) (by decide) (fun _ => ?_) (fun c9 => absurd (show F 23 0 < nI 8 by rw [hr.1]; exact nI_lt hr.2 (by omega)) c9)
  refine lv_aload_n hx hb (dd_of dX5_newPump_0 11 rfl) rfl (lv_at hl 0 rfl) ?_
  refine va_get (D := D) (cl := vwCl) (tys := jT yy) (ci := 5) (v := .ref (B 4)) (C := RX5) (T := TX5) (N := 10) hx hb hts (fun w h => List.mem_cons_of_mem _ (inlX5 w h)) hown hK hP 0 rfl rfl 4 (by decide) (jw hts gw35) (fun _ h9 => h9) rfl (dd_of dX5_newPump_0 12 rfl) ?_
  refine lv_aload_n hx hb (dd_of dX5_newPump_0 13 rfl) rfl (lv_at hl 0 rfl) ?_
  refine va_get (D := D) (cl := vwCl) (tys := jT yy) (ci := 5) (v := .int (F 23 0)) (C := RX5) (T := TX5) (N := 10) hx hb hts (fun w h => List.mem_cons_of_mem _ (inlX5 w h)) hown hK hP 0 rfl rfl 5 (by decide) (jw hts gw287) (fun _ h9 => h9) rfl (dd_of dX5_newPump_0 14 rfl) ?_
  refine lv_aload_n hx hb (dd_of dX5_newPump_0 15 rfl) rfl (lv_at hl 1 rfl) ?_
  refine va_astq (r := (RX7, TX7, 8)) hx hb hK hP hD hS 6 7 ((lW yy B F G).length + 0) 7 rfl rfl (ap_get (i := 0) rfl) rfl (show vp_in (F 23 0) 8 by rw [hr.1]; exact vp_in_nI hr.2 (by omega)) (dd_of dX5_newPump_0 16 rfl) (fun H locs hP hD hS => ?_)
  have hP : va_P D vwCl ((lW yy B F G ++ ([(q, .inr (7, [.int p1, .int p2, .int p3, .int p4, .int p5, .int 0, .int 0, .int 0]))] : va_W)).set 6 (B 4, .inl (yy 7, 8, .inr (.inr (.inr (.inr (va_up (fun i => oB B 300 (op (cn F 23) i)) (Int32.toNatClampNeg (F 23 0)) (some q)))))))) H := hP
  have hD : va_D Z ((lW yy B F G ++ ([(q, .inr (7, [.int p1, .int p2, .int p3, .int p4, .int p5, .int 0, .int 0, .int 0]))] : va_W)).set 6 (B 4, .inl (yy 7, 8, .inr (.inr (.inr (.inr (va_up (fun i => oB B 300 (op (cn F 23) i)) (Int32.toNatClampNeg (F 23 0)) (some q)))))))) := hD
  refine lv_aload_n hx hb (dd_of dX5_newPump_0 17 rfl) rfl (lv_at hl 0 rfl) ?_
  refine lv_dup hx hb (dd_of dX5_newPump_0 18 rfl) rfl ?_
  refine va_get (D := D) (cl := vwCl) (tys := jT yy) (ci := 5) (v := .int (F 23 0)) (C := RX5) (T := TX5) (N := 10) hx hb hts (fun w h => List.mem_cons_of_mem _ (inlX5 w h)) hown hK hP 0 rfl rfl 5 (by decide) (jw hts gw287) (fun _ h9 => h9) rfl (dd_of dX5_newPump_0 19 rfl) ?_
  refine lv_dup_x1 hx hb (dd_of dX5_newPump_0 20 rfl) rfl rfl ?_
  refine lv_iconst (v := 1) hx hb (dd_of dX5_newPump_0 21 rfl) (by decide) ?_
  refine lv_iadd hx hb (dd_of dX5_newPump_0 22 rfl) ?_
  refine va_put (D := D) (cl := vwCl) (tys := jT yy) (ci := 5) (v := .int (F 23 0 + 1)) (ty := .int) (C := RX5) (T := TX5) (N := 10) hx hb hts (fun w h => List.mem_cons_of_mem _ (inlX5 w h)) tyX5 tyX5_ok nmX5 hown hK hP hD hS 0 rfl rfl 5 (by decide) (jw hts gw287) (fun _ h9 => h9) rfl (by decide +kernel) rfl rfl (Nat.le_of_ble_eq_true rfl) (dd_of dX5_newPump_0 23 rfl) (fun H locs hP hD hS => ?_)
  have hP : va_P D vwCl (((lW yy B F G ++ ([(q, .inr (7, [.int p1, .int p2, .int p3, .int p4, .int p5, .int 0, .int 0, .int 0]))] : va_W)).set 6 (B 4, .inl (yy 7, 8, .inr (.inr (.inr (.inr (va_up (fun i => oB B 300 (op (cn F 23) i)) (Int32.toNatClampNeg (F 23 0)) (some q)))))))).set 0 (B 0, .inr (5, [.ref (B 1), .ref (B 2), .ref (B 3), .int (F 17 0), .ref (B 4), .int (F 23 0 + 1), .ref (B 5), .int (F 32 0), .ref (B 6), .ref (B 7)]))) H := hP
  have hD : va_D Z (((lW yy B F G ++ ([(q, .inr (7, [.int p1, .int p2, .int p3, .int p4, .int p5, .int 0, .int 0, .int 0]))] : va_W)).set 6 (B 4, .inl (yy 7, 8, .inr (.inr (.inr (.inr (va_up (fun i => oB B 300 (op (cn F 23) i)) (Int32.toNatClampNeg (F 23 0)) (some q)))))))).set 0 (B 0, .inr (5, [.ref (B 1), .ref (B 2), .ref (B 3), .int (F 17 0), .ref (B 4), .int (F 23 0 + 1), .ref (B 5), .int (F 32 0), .ref (B 6), .ref (B 7)]))) := hD
  obtain ⟨B1, hB1, hP, hD⟩ := lW_grow_pump hk hr hP hD
  subst hQ
  exact W.iret (v := F 23 0) hx hb hr9 (fun t ht hW => ⟨⟨F 23 0, (B1, ((u2 (u2 (u2 (u2 (u2 (u2 (u2 (u2 (u2 F 24 (cn F 23) p1) 25 (cn F 23) p2) 26 (cn F 23) p3) 27 (cn F 23) p4) 28 (cn F 23) p5) 29 (cn F 23) 0) 30 (cn F 23) 0) 31 (cn F 23) 0) 23 0 (F 23 0 + 1)), G)), rfl, ⟨rfl, hB1⟩, by rw [ht]; exact hP, va_K.moved hW.alike hK, hD⟩, hS.F ht⟩) hS.2.2 (dd_of dX5_newPump_0 24 rfl) hlk
set_option maxHeartbeats 4000000 in
set_option maxRecDepth 100000 in
theorem qX5_newDyke (l : Launch) (D : va_G) (yy : Nat → ClassId) (B : Nat → Nat) (F : jF) (G : jG) (sz : Nat) (q : Nat) (p1 p2 p3 p4 p5 : Int32) (hk : lK F) (hr : lroom F 32 8) : Met l yX5_newDyke (Cond.code yX5_newDyke cX5_newDyke 2 (some .int) :: wsL_law) rmX5_newDyke (va_Pc [.ref (B 0), .ref q] (jP D yy (lW yy B F G ++ ([(q, .inr (3, [.int p1, .int p2, .int p3, .int p4, .int p5, .long 0, .int 0]))] : va_W)) sz)) (va_Qi (fun r (u : (Nat → Nat) × jS) => (r, u.2) = gX5_newDyke F G p1 p2 p3 p4 p5 ∧ ∀ k, k < 100 → u.1 k = B k) (fun u t => jB D yy (va_A (lW yy B F G ++ ([(q, .inr (3, [.int p1, .int p2, .int p3, .int p4, .int p5, .long 0, .int 0]))] : va_W)) sz) (lW yy u.1 u.2.1 u.2.2) t) (va_A (lW yy B F G ++ ([(q, .inr (3, [.int p1, .int p2, .int p3, .int p4, .int p5, .long 0, .int 0]))] : va_W)) sz)) 0 0 (va_A (lW yy B F G ++ ([(q, .inr (3, [.int p1, .int p2, .int p3, .int p4, .int p5, .long 0, .int 0]))] : va_W)) sz) := by
  refine jM (vs := [.ref (B 0), .ref q]) (own := RX5) (by decide) rfl (Nat.le_of_ble_eq_true rfl) ?_
  intro p e s m args below meth c ls Q hQ hargs S hr9 hlk hinit hB hl
  obtain ⟨hx, hb, hml, hown, hts⟩ := S
  have hl : lv_has ls 2 [(0, .ref (B 0)), (1, .ref q)] := hl
  obtain ⟨hsz, hP, hK, hD0⟩ := hB
  subst hsz
  have hD := hD0.self (sz := s.heap.size)
  generalize hZ : va_A (lW yy B F G ++ ([(q, .inr (3, [.int p1, .int p2, .int p3, .int p4, .int p5, .long 0, .int 0]))] : va_W)) s.heap.size = Z at hD hQ
  have hA : ∀ q : Nat, s.heap.size ≤ q → Z q := fun q h => by rw [← hZ]; exact Or.inr h
  obtain ⟨H, hH⟩ : ∃ z, z = s.heap := ⟨_, rfl⟩
  obtain ⟨locs, hlocs⟩ : ∃ z : List Loc, z = [] := ⟨_, rfl⟩
  have hS : va_S Z s.heap H locs := by rw [hH, hlocs]; exact va_S.rf
  rw [← hH] at hP
  suffices hgo : W p l e rmX5_newDyke s m args below meth c H locs 0 0 Q (F0 m 0 ls []) by rw [hH, hlocs] at hgo; exact hgo
  refine lv_aload_n hx hb (dd_of dX5_newDyke_0 0 rfl) rfl (lv_at hl 0 rfl) ?_
  refine va_get (D := D) (cl := vwCl) (tys := jT yy) (ci := 5) (v := .int (F 32 0)) (C := RX5) (T := TX5) (N := 10) hx hb hts (fun w h => List.mem_cons_of_mem _ (inlX5 w h)) hown hK hP 0 rfl rfl 7 (by decide) (jw hts gw301) (fun _ h9 => h9) rfl (dd_of dX5_newDyke_0 1 rfl) ?_
  refine lv_if_lt (tgt := 19) hx hb (dd_of dX5_newDyke_0 2 rfl) (by decide) (fun c9 => absurd c9 (by rw [hr.1]; exact nI_pos (by have := hr.2; omega))) (fun _ => ?_)
  refine lv_aload_n hx hb (dd_of dX5_newDyke_0 3 rfl) rfl (lv_at hl 0 rfl) ?_
  refine va_get (D := D) (cl := vwCl) (tys := jT yy) (ci := 5) (v := .int (F 32 0)) (C := RX5) (T := TX5) (N := 10) hx hb hts (fun w h => List.mem_cons_of_mem _ (inlX5 w h)) hown hK hP 0 rfl rfl 7 (by decide) (jw hts gw301) (fun _ h9 => h9) rfl (dd_of dX5_newDyke_0 4 rfl) ?_
  refine lv_aload_n hx hb (dd_of dX5_newDyke_0 5 rfl) rfl (lv_at hl 0 rfl) ?_
  refine va_get (D := D) (cl := vwCl) (tys := jT yy) (ci := 5) (v := .ref (B 5)) (C := RX5) (T := TX5) (N := 10) hx hb hts (fun w h => List.mem_cons_of_mem _ (inlX5 w h)) hown hK hP 0 rfl rfl 6 (by decide) (jw hts gw37) (fun _ h9 => h9) rfl (dd_of dX5_newDyke_0 6 rfl) ?_
  refine va_alen (v := 8) hx hb hK hP 7 5 rfl rfl rfl (dd_of dX5_newDyke_0 7 rfl) ?_
  refine lv_icmp_lt (tgt := 21) hx hb (dd_of dX5_newDyke_0 8 rfl) (by decide) (fun _ => ?_) (fun c9 => absurd (show F 32 0 < nI 8 by rw [hr.1]; exact nI_lt hr.2 (by omega)) c9)
  refine lv_aload_n hx hb (dd_of dX5_newDyke_0 11 rfl) rfl (lv_at hl 0 rfl) ?_
  refine va_get (D := D) (cl := vwCl) (tys := jT yy) (ci := 5) (v := .ref (B 5)) (C := RX5) (T := TX5) (N := 10) hx hb hts (fun w h => List.mem_cons_of_mem _ (inlX5 w h)) hown hK hP 0 rfl rfl 6 (by decide) (jw hts gw37) (fun _ h9 => h9) rfl (dd_of dX5_newDyke_0 12 rfl) ?_
  refine lv_aload_n hx hb (dd_of dX5_newDyke_0 13 rfl) rfl (lv_at hl 0 rfl) ?_
  refine va_get (D := D) (cl := vwCl) (tys := jT yy) (ci := 5) (v := .int (F 32 0)) (C := RX5) (T := TX5) (N := 10) hx hb hts (fun w h => List.mem_cons_of_mem _ (inlX5 w h)) hown hK hP 0 rfl rfl 7 (by decide) (jw hts gw301) (fun _ h9 => h9) rfl (dd_of dX5_newDyke_0 14 rfl) ?_
  refine lv_aload_n hx hb (dd_of dX5_newDyke_0 15 rfl) rfl (lv_at hl 1 rfl) ?_
  refine va_astq (r := (RX3, TX3, 7)) hx hb hK hP hD hS 7 5 ((lW yy B F G).length + 0) 3 rfl rfl (ap_get (i := 0) rfl) rfl (show vp_in (F 32 0) 8 by rw [hr.1]; exact vp_in_nI hr.2 (by omega)) (dd_of dX5_newDyke_0 16 rfl) (fun H locs hP hD hS => ?_)
  have hP : va_P D vwCl ((lW yy B F G ++ ([(q, .inr (3, [.int p1, .int p2, .int p3, .int p4, .int p5, .long 0, .int 0]))] : va_W)).set 7 (B 5, .inl (yy 5, 8, .inr (.inr (.inr (.inr (va_up (fun i => oB B 400 (op (cn F 32) i)) (Int32.toNatClampNeg (F 32 0)) (some q)))))))) H := hP
  have hD : va_D Z ((lW yy B F G ++ ([(q, .inr (3, [.int p1, .int p2, .int p3, .int p4, .int p5, .long 0, .int 0]))] : va_W)).set 7 (B 5, .inl (yy 5, 8, .inr (.inr (.inr (.inr (va_up (fun i => oB B 400 (op (cn F 32) i)) (Int32.toNatClampNeg (F 32 0)) (some q)))))))) := hD
  refine lv_aload_n hx hb (dd_of dX5_newDyke_0 17 rfl) rfl (lv_at hl 0 rfl) ?_
  refine lv_dup hx hb (dd_of dX5_newDyke_0 18 rfl) rfl ?_
  refine va_get (D := D) (cl := vwCl) (tys := jT yy) (ci := 5) (v := .int (F 32 0)) (C := RX5) (T := TX5) (N := 10) hx hb hts (fun w h => List.mem_cons_of_mem _ (inlX5 w h)) hown hK hP 0 rfl rfl 7 (by decide) (jw hts gw301) (fun _ h9 => h9) rfl (dd_of dX5_newDyke_0 19 rfl) ?_
  refine lv_dup_x1 hx hb (dd_of dX5_newDyke_0 20 rfl) rfl rfl ?_
  refine lv_iconst (v := 1) hx hb (dd_of dX5_newDyke_0 21 rfl) (by decide) ?_
  refine lv_iadd hx hb (dd_of dX5_newDyke_0 22 rfl) ?_
  refine va_put (D := D) (cl := vwCl) (tys := jT yy) (ci := 5) (v := .int (F 32 0 + 1)) (ty := .int) (C := RX5) (T := TX5) (N := 10) hx hb hts (fun w h => List.mem_cons_of_mem _ (inlX5 w h)) tyX5 tyX5_ok nmX5 hown hK hP hD hS 0 rfl rfl 7 (by decide) (jw hts gw301) (fun _ h9 => h9) rfl (by decide +kernel) rfl rfl (Nat.le_of_ble_eq_true rfl) (dd_of dX5_newDyke_0 23 rfl) (fun H locs hP hD hS => ?_)
  have hP : va_P D vwCl (((lW yy B F G ++ ([(q, .inr (3, [.int p1, .int p2, .int p3, .int p4, .int p5, .long 0, .int 0]))] : va_W)).set 7 (B 5, .inl (yy 5, 8, .inr (.inr (.inr (.inr (va_up (fun i => oB B 400 (op (cn F 32) i)) (Int32.toNatClampNeg (F 32 0)) (some q)))))))).set 0 (B 0, .inr (5, [.ref (B 1), .ref (B 2), .ref (B 3), .int (F 17 0), .ref (B 4), .int (F 23 0), .ref (B 5), .int (F 32 0 + 1), .ref (B 6), .ref (B 7)]))) H := hP
  have hD : va_D Z (((lW yy B F G ++ ([(q, .inr (3, [.int p1, .int p2, .int p3, .int p4, .int p5, .long 0, .int 0]))] : va_W)).set 7 (B 5, .inl (yy 5, 8, .inr (.inr (.inr (.inr (va_up (fun i => oB B 400 (op (cn F 32) i)) (Int32.toNatClampNeg (F 32 0)) (some q)))))))).set 0 (B 0, .inr (5, [.ref (B 1), .ref (B 2), .ref (B 3), .int (F 17 0), .ref (B 4), .int (F 23 0), .ref (B 5), .int (F 32 0 + 1), .ref (B 6), .ref (B 7)]))) := hD
  obtain ⟨B1, hB1, hP, hD⟩ := lW_grow_dyke hk hr hP hD
  subst hQ
  exact W.iret (v := F 32 0) hx hb hr9 (fun t ht hW => ⟨⟨F 32 0, (B1, ((u2 (u2 (u2 (u2 (u2 (u2 (u2 F 33 (cn F 32) p1) 34 (cn F 32) p2) 35 (cn F 32) p3) 36 (cn F 32) p4) 37 (cn F 32) p5) 39 (cn F 32) 0) 32 0 (F 32 0 + 1)), (u2 G 61 (cn F 32) 0))), rfl, ⟨rfl, hB1⟩, by rw [ht]; exact hP, va_K.moved hW.alike hK, hD⟩, hS.F ht⟩) hS.2.2 (dd_of dX5_newDyke_0 24 rfl) hlk
