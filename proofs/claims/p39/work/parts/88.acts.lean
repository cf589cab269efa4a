-- acts: what may throw for the state
abbrev rmL_acts : Room := { frames := 8, cells := 9, slots := 64, locals := 220 }
set_option maxHeartbeats 4000000 in
set_option maxRecDepth 100000 in
theorem qL_acts_drive (l : Launch) (hl9 : l.stackTraces = false) (D : va_G) (yy : Nat → ClassId) (h0 an : Nat) (B B2 : Nat → Nat) (F : jF) (G : jG) (F2 : jF) (G2 : jG) (M : jF) (sz : Nat) (p2 : Int32) (p3 : Int32) (p4 : Int32) (h3 : p3 = 0 ∨ p3 = 1) (hok : okX11_drive F G M p2 p3 p4) (hcod : (gX11_drive F G M p2 p3 p4).1 = 0 ∨ (gX11_drive F G M p2 p3 p4).1 = 3) : Met l yL_acts (Cond.codeWith yL_acts cL_acts 6 (some .int) [(0, 73, 74, 36)] :: wsL_law) rmL_acts (va_Pc [.ref h0, .int 0, .int p2, .int p3, .int p4] (jZ D yy (pV yy h0 an B B2 F G F2 G2 M) sz)) (va_Qi (fun (r : Int32) (u : ((Nat → Nat) × jS) × jF) => (gX11_drive F G M p2 p3 p4 = (0, (r, (u.1.2, u.2))) ∨ ((gX11_drive F G M p2 p3 p4).1 = 3 ∧ r = -9 ∧ u = ((B, (F, G)), M))) ∧ ∀ k, k < 100 → u.1.1 k = B k) (fun u t => jB D yy (va_A (pV yy h0 an B B2 F G F2 G2 M) sz) (pV yy h0 an u.1.1 B2 u.1.2.1 u.1.2.2 F2 G2 u.2) t) (va_A (pV yy h0 an B B2 F G F2 G2 M) sz)) 9 64 (va_A (pV yy h0 an B B2 F G F2 G2 M) sz) := by
  refine jMW (vs := [.ref h0, .int 0, .int p2, .int p3, .int p4]) (own := RL) (by decide +kernel) rfl (Nat.le_of_ble_eq_true rfl) ?_
  intro p e s m args below meth c ls Q hQ hargs S hr hlk htab hB hl
  obtain ⟨hx, hb, hml, hown, hts⟩ := S
  have hl : lv_has ls 6 [(0, .ref h0), (1, .int 0), (2, .int p2), (3, .int p3), (4, .int p4)] := hl
  obtain ⟨⟨⟨hsz, hV, hK, hD0⟩, hT⟩, hN⟩ := hB
  subst hsz
  have hD := hD0.self (sz := s.heap.size)
  generalize hZ : va_A (pV yy h0 an B B2 F G F2 G2 M) s.heap.size = Z at hD hQ hT
  have hA : ∀ q : Nat, s.heap.size ≤ q → Z q := fun q h => by rw [← hZ]; exact Or.inr h
  obtain ⟨H, hH⟩ : ∃ z, z = s.heap := ⟨_, rfl⟩
  obtain ⟨locs, hlocs⟩ : ∃ z : List Loc, z = [] := ⟨_, rfl⟩
  have hS : va_S Z s.heap H locs := by rw [hH, hlocs]; exact va_S.rf
  rw [← hH] at hV
  suffices hgo : W p l e rmL_acts s m args below meth c H locs 0 0 Q (F0 m 0 ls []) by rw [hH, hlocs] at hgo; exact hgo
  rcases h3 with rfl | rfl
  · skip
    refine lv_iload_n hx hb (dd_of dL_acts_0 0 rfl) rfl (lv_at hl 1 rfl) ?_
    refine lv_if_ne (tgt := 24) hx hb (dd_of dL_acts_0 1 rfl) (by decide) (fun c1 => absurd rfl c1) (fun c1 => ?_)
    refine lv_aload_n hx hb (dd_of dL_acts_0 2 rfl) rfl (lv_at hl 0 rfl) ?_
    refine lv_iload_n hx hb (dd_of dL_acts_0 3 rfl) rfl (lv_at hl 2 rfl) ?_
    refine lv_iload_n hx hb (dd_of dL_acts_0 4 rfl) rfl (lv_at hl 3 rfl) ?_
    refine lv_iconst (v := 1) hx hb (dd_of dL_acts_0 5 rfl) (by decide) ?_
    refine lv_icmp_ne (tgt := 15) hx hb (dd_of dL_acts_0 6 rfl) (by decide) (fun c1 => ?_) (fun c1 => absurd c1 (by decide))
    refine lv_iconst (v := 0) hx hb (dd_of dL_acts_0 9 rfl) (by decide) ?_
    refine lv_iload hx hb (dd_of dL_acts_0 10 rfl) (lv_at hl 4 rfl) ?_
    refine ka_i (As := [.int p2, .int 0, .int p4]) (rest := []) (D := D) (yy := yy) (P0 := pV yy h0 an B B2 F G F2 G2 M) (gc := (gX11_drive F G M p2 0 p4).1) (w1 := fun u : ((Nat → Nat) × jS) × jF => pV yy h0 an u.1.1 B2 u.1.2.1 u.1.2.2 F2 G2 u.2) ⟨hx, hb, hml, hown, hts⟩ (qX11_drive l hl9 D yy h0 an B B2 F G F2 G2 M H.size p2 0 p4 hok) (cwV 3 hts (jgV gw2028 gw796 gw797 gw2 gw798) rfl rfl rfl (by decide +kernel) ⟨Nat.le_of_ble_eq_true rfl, Nat.le_of_ble_eq_true rfl⟩) hV hK hT hD hS hA (va_recv hK hV (ci := 11) (q0 := 0) rfl rfl) rfl hl.1 rfl (Nat.le_of_ble_eq_true rfl) (dd_of dL_acts_0 11 rfl) ⟨Nat.le_of_ble_eq_true rfl, Nat.le_of_ble_eq_true rfl⟩ (fun E ce q9 H locs hg0 hE9 hV hS z1 z2 z3 => ?_) (fun x u H locs hp hV hD hS => ?_)
    · rcases hcod with hcod | hcod
      · exact absurd hcod hg0
      · have hE9 : E = xS := by rw [hE9, hcod]; rfl
        subst hE9
        refine jcat hown hts htab [] (0, 73, 74, 36) [] rfl (fun z hz => absurd hz List.not_mem_nil) (by decide) (by decide) gw2027 (va_Nw.use rfl (hT.2.1.1 xS (Or.inr (Or.inr rfl)))) z1 z2 z3 ?_
        refine lv_astore hx hb (dd_of dL_acts_1 1 rfl) hl (by decide) rfl (fun ls hl => ?_)
        refine lv_bipush (v := (-9)) hx hb (dd_of dL_acts_1 2 rfl) (by decide) ?_
        subst hQ
        refine W.widen (k := 9) (n := 64) (Nat.le_of_ble_eq_true rfl) (Nat.le_of_ble_eq_true rfl) ?_
        exact W.iret (v := -9) hx hb hr (fun t ht hW => ⟨⟨-9, ((B, (F, G)), M), rfl, ⟨Or.inr ⟨hcod, rfl, rfl⟩, fun _ _ => rfl⟩, by rw [ht]; exact hV, va_K.moved hW.alike hK, hD⟩, hS.F ht⟩) hS.2.2 (dd_of dL_acts_1 3 rfl) hlk
    · obtain ⟨⟨B1, F1, G1⟩, M1⟩ := u
      obtain ⟨hp, hB1⟩ := hp
      have hB1 : ∀ k, k < 100 → B1 k = B k := hB1
      have hp : gX11_drive F G M p2 0 p4 = (0, (x, ((F1, G1), M1))) := hp
      have hV : va_P D vwCl (pV yy h0 an B1 B2 F1 G1 F2 G2 M1) H := hV
      have hD : va_D Z (pV yy h0 an B1 B2 F1 G1 F2 G2 M1) := hD
      refine lv_goto (tgt := 73) hx hb (dd_of dL_acts_0 12 rfl) (by decide) ?_
      subst hQ
      refine W.widen (k := 9) (n := 64) (Nat.le_of_ble_eq_true rfl) (Nat.le_of_ble_eq_true rfl) ?_
      exact W.iret (v := x) hx hb hr (fun t ht hW => ⟨⟨x, ((B1, (F1, G1)), M1), rfl, ⟨Or.inl hp, hB1⟩, by rw [ht]; exact hV, va_K.moved hW.alike hK, hD⟩, hS.F ht⟩) hS.2.2 (dd_of dL_acts_1 0 rfl) hlk
  · skip
    refine lv_iload_n hx hb (dd_of dL_acts_0 0 rfl) rfl (lv_at hl 1 rfl) ?_
    refine lv_if_ne (tgt := 24) hx hb (dd_of dL_acts_0 1 rfl) (by decide) (fun c1 => absurd rfl c1) (fun c1 => ?_)
    refine lv_aload_n hx hb (dd_of dL_acts_0 2 rfl) rfl (lv_at hl 0 rfl) ?_
    refine lv_iload_n hx hb (dd_of dL_acts_0 3 rfl) rfl (lv_at hl 2 rfl) ?_
    refine lv_iload_n hx hb (dd_of dL_acts_0 4 rfl) rfl (lv_at hl 3 rfl) ?_
    refine lv_iconst (v := 1) hx hb (dd_of dL_acts_0 5 rfl) (by decide) ?_
    refine lv_icmp_ne (tgt := 15) hx hb (dd_of dL_acts_0 6 rfl) (by decide) (fun c1 => absurd rfl c1) (fun c1 => ?_)
    refine lv_iconst (v := 1) hx hb (dd_of dL_acts_0 7 rfl) (by decide) ?_
    refine lv_goto (tgt := 16) hx hb (dd_of dL_acts_0 8 rfl) (by decide) ?_
    refine lv_iload hx hb (dd_of dL_acts_0 10 rfl) (lv_at hl 4 rfl) ?_
    refine ka_i (As := [.int p2, .int 1, .int p4]) (rest := []) (D := D) (yy := yy) (P0 := pV yy h0 an B B2 F G F2 G2 M) (gc := (gX11_drive F G M p2 1 p4).1) (w1 := fun u : ((Nat → Nat) × jS) × jF => pV yy h0 an u.1.1 B2 u.1.2.1 u.1.2.2 F2 G2 u.2) ⟨hx, hb, hml, hown, hts⟩ (qX11_drive l hl9 D yy h0 an B B2 F G F2 G2 M H.size p2 1 p4 hok) (cwV 3 hts (jgV gw2028 gw796 gw797 gw2 gw798) rfl rfl rfl (by decide +kernel) ⟨Nat.le_of_ble_eq_true rfl, Nat.le_of_ble_eq_true rfl⟩) hV hK hT hD hS hA (va_recv hK hV (ci := 11) (q0 := 0) rfl rfl) rfl hl.1 rfl (Nat.le_of_ble_eq_true rfl) (dd_of dL_acts_0 11 rfl) ⟨Nat.le_of_ble_eq_true rfl, Nat.le_of_ble_eq_true rfl⟩ (fun E ce q9 H locs hg0 hE9 hV hS z1 z2 z3 => ?_) (fun x u H locs hp hV hD hS => ?_)
    · rcases hcod with hcod | hcod
      · exact absurd hcod hg0
      · have hE9 : E = xS := by rw [hE9, hcod]; rfl
        subst hE9
        refine jcat hown hts htab [] (0, 73, 74, 36) [] rfl (fun z hz => absurd hz List.not_mem_nil) (by decide) (by decide) gw2027 (va_Nw.use rfl (hT.2.1.1 xS (Or.inr (Or.inr rfl)))) z1 z2 z3 ?_
        refine lv_astore hx hb (dd_of dL_acts_1 1 rfl) hl (by decide) rfl (fun ls hl => ?_)
        refine lv_bipush (v := (-9)) hx hb (dd_of dL_acts_1 2 rfl) (by decide) ?_
        subst hQ
        refine W.widen (k := 9) (n := 64) (Nat.le_of_ble_eq_true rfl) (Nat.le_of_ble_eq_true rfl) ?_
        exact W.iret (v := -9) hx hb hr (fun t ht hW => ⟨⟨-9, ((B, (F, G)), M), rfl, ⟨Or.inr ⟨hcod, rfl, rfl⟩, fun _ _ => rfl⟩, by rw [ht]; exact hV, va_K.moved hW.alike hK, hD⟩, hS.F ht⟩) hS.2.2 (dd_of dL_acts_1 3 rfl) hlk
    · obtain ⟨⟨B1, F1, G1⟩, M1⟩ := u
      obtain ⟨hp, hB1⟩ := hp
      have hB1 : ∀ k, k < 100 → B1 k = B k := hB1
      have hp : gX11_drive F G M p2 1 p4 = (0, (x, ((F1, G1), M1))) := hp
      have hV : va_P D vwCl (pV yy h0 an B1 B2 F1 G1 F2 G2 M1) H := hV
      have hD : va_D Z (pV yy h0 an B1 B2 F1 G1 F2 G2 M1) := hD
      refine lv_goto (tgt := 73) hx hb (dd_of dL_acts_0 12 rfl) (by decide) ?_
      subst hQ
      refine W.widen (k := 9) (n := 64) (Nat.le_of_ble_eq_true rfl) (Nat.le_of_ble_eq_true rfl) ?_
      exact W.iret (v := x) hx hb hr (fun t ht hW => ⟨⟨x, ((B1, (F1, G1)), M1), rfl, ⟨Or.inl hp, hB1⟩, by rw [ht]; exact hV, va_K.moved hW.alike hK, hD⟩, hS.F ht⟩) hS.2.2 (dd_of dL_acts_1 0 rfl) hlk
set_option maxHeartbeats 4000000 in
set_option maxRecDepth 100000 in
theorem qL_acts_mend (l : Launch) (hl9 : l.stackTraces = false) (D : va_G) (yy : Nat → ClassId) (h0 an : Nat) (B B2 : Nat → Nat) (F : jF) (G : jG) (F2 : jF) (G2 : jG) (M : jF) (sz : Nat) (p2 : Int32) (p3 : Int32) (p4 : Int32) (hok : okX11_mend F G M p2) (hcod : (gX11_mend F G M p2).1 = 0 ∨ (gX11_mend F G M p2).1 = 3) : Met l yL_acts (Cond.codeWith yL_acts cL_acts 6 (some .int) [(0, 73, 74, 36)] :: wsL_law) rmL_acts (va_Pc [.ref h0, .int 1, .int p2, .int p3, .int p4] (jZ D yy (pV yy h0 an B B2 F G F2 G2 M) sz)) (va_Qi (fun (r : Int32) (u : ((Nat → Nat) × jS) × jF) => (gX11_mend F G M p2 = (0, (r, (u.1.2, u.2))) ∨ ((gX11_mend F G M p2).1 = 3 ∧ r = -9 ∧ u = ((B, (F, G)), M))) ∧ ∀ k, k < 100 → u.1.1 k = B k) (fun u t => jB D yy (va_A (pV yy h0 an B B2 F G F2 G2 M) sz) (pV yy h0 an u.1.1 B2 u.1.2.1 u.1.2.2 F2 G2 u.2) t) (va_A (pV yy h0 an B B2 F G F2 G2 M) sz)) 9 64 (va_A (pV yy h0 an B B2 F G F2 G2 M) sz) := by
  refine jMW (vs := [.ref h0, .int 1, .int p2, .int p3, .int p4]) (own := RL) (by decide +kernel) rfl (Nat.le_of_ble_eq_true rfl) ?_
  intro p e s m args below meth c ls Q hQ hargs S hr hlk htab hB hl
  obtain ⟨hx, hb, hml, hown, hts⟩ := S
  have hl : lv_has ls 6 [(0, .ref h0), (1, .int 1), (2, .int p2), (3, .int p3), (4, .int p4)] := hl
  obtain ⟨⟨⟨hsz, hV, hK, hD0⟩, hT⟩, hN⟩ := hB
  subst hsz
  have hD := hD0.self (sz := s.heap.size)
  generalize hZ : va_A (pV yy h0 an B B2 F G F2 G2 M) s.heap.size = Z at hD hQ hT
  have hA : ∀ q : Nat, s.heap.size ≤ q → Z q := fun q h => by rw [← hZ]; exact Or.inr h
  obtain ⟨H, hH⟩ : ∃ z, z = s.heap := ⟨_, rfl⟩
  obtain ⟨locs, hlocs⟩ : ∃ z : List Loc, z = [] := ⟨_, rfl⟩
  have hS : va_S Z s.heap H locs := by rw [hH, hlocs]; exact va_S.rf
  rw [← hH] at hV
  suffices hgo : W p l e rmL_acts s m args below meth c H locs 0 0 Q (F0 m 0 ls []) by rw [hH, hlocs] at hgo; exact hgo
  refine lv_iload_n hx hb (dd_of dL_acts_0 0 rfl) rfl (lv_at hl 1 rfl) ?_
  refine lv_if_ne (tgt := 24) hx hb (dd_of dL_acts_0 1 rfl) (by decide) (fun c1 => ?_) (fun c1 => absurd c1 (by decide))
  refine lv_iload_n hx hb (dd_of dL_acts_0 13 rfl) rfl (lv_at hl 1 rfl) ?_
  refine lv_iconst (v := 1) hx hb (dd_of dL_acts_0 14 rfl) (by decide) ?_
  refine lv_icmp_ne (tgt := 37) hx hb (dd_of dL_acts_0 15 rfl) (by decide) (fun c1 => absurd rfl c1) (fun c1 => ?_)
  refine lv_aload_n hx hb (dd_of dL_acts_0 16 rfl) rfl (lv_at hl 0 rfl) ?_
  refine lv_iload_n hx hb (dd_of dL_acts_0 17 rfl) rfl (lv_at hl 2 rfl) ?_
  refine ka_i (As := [.int p2]) (rest := []) (D := D) (yy := yy) (P0 := pV yy h0 an B B2 F G F2 G2 M) (gc := (gX11_mend F G M p2).1) (w1 := fun u : ((Nat → Nat) × jS) × jF => pV yy h0 an u.1.1 B2 u.1.2.1 u.1.2.2 F2 G2 u.2) ⟨hx, hb, hml, hown, hts⟩ (qX11_mend l hl9 D yy h0 an B B2 F G F2 G2 M H.size p2 hok) (cwV 1 hts (jgV gw2029 gw819 gw820 gw2 gw821) rfl rfl rfl (by decide +kernel) ⟨Nat.le_of_ble_eq_true rfl, Nat.le_of_ble_eq_true rfl⟩) hV hK hT hD hS hA (va_recv hK hV (ci := 11) (q0 := 0) rfl rfl) rfl hl.1 rfl (Nat.le_of_ble_eq_true rfl) (dd_of dL_acts_0 18 rfl) ⟨Nat.le_of_ble_eq_true rfl, Nat.le_of_ble_eq_true rfl⟩ (fun E ce q9 H locs hg0 hE9 hV hS z1 z2 z3 => ?_) (fun x u H locs hp hV hD hS => ?_)
  · rcases hcod with hcod | hcod
    · exact absurd hcod hg0
    · have hE9 : E = xS := by rw [hE9, hcod]; rfl
      subst hE9
      refine jcat hown hts htab [] (0, 73, 74, 36) [] rfl (fun z hz => absurd hz List.not_mem_nil) (by decide) (by decide) gw2027 (va_Nw.use rfl (hT.2.1.1 xS (Or.inr (Or.inr rfl)))) z1 z2 z3 ?_
      refine lv_astore hx hb (dd_of dL_acts_1 1 rfl) hl (by decide) rfl (fun ls hl => ?_)
      refine lv_bipush (v := (-9)) hx hb (dd_of dL_acts_1 2 rfl) (by decide) ?_
      subst hQ
      refine W.widen (k := 9) (n := 64) (Nat.le_of_ble_eq_true rfl) (Nat.le_of_ble_eq_true rfl) ?_
      exact W.iret (v := -9) hx hb hr (fun t ht hW => ⟨⟨-9, ((B, (F, G)), M), rfl, ⟨Or.inr ⟨hcod, rfl, rfl⟩, fun _ _ => rfl⟩, by rw [ht]; exact hV, va_K.moved hW.alike hK, hD⟩, hS.F ht⟩) hS.2.2 (dd_of dL_acts_1 3 rfl) hlk
  · obtain ⟨⟨B1, F1, G1⟩, M1⟩ := u
    obtain ⟨hp, hB1⟩ := hp
    have hB1 : ∀ k, k < 100 → B1 k = B k := hB1
    have hp : gX11_mend F G M p2 = (0, (x, ((F1, G1), M1))) := hp
    have hV : va_P D vwCl (pV yy h0 an B1 B2 F1 G1 F2 G2 M1) H := hV
    have hD : va_D Z (pV yy h0 an B1 B2 F1 G1 F2 G2 M1) := hD
    refine lv_goto (tgt := 73) hx hb (dd_of dL_acts_0 19 rfl) (by decide) ?_
    subst hQ
    refine W.widen (k := 9) (n := 64) (Nat.le_of_ble_eq_true rfl) (Nat.le_of_ble_eq_true rfl) ?_
    exact W.iret (v := x) hx hb hr (fun t ht hW => ⟨⟨x, ((B1, (F1, G1)), M1), rfl, ⟨Or.inl hp, hB1⟩, by rw [ht]; exact hV, va_K.moved hW.alike hK, hD⟩, hS.F ht⟩) hS.2.2 (dd_of dL_acts_1 0 rfl) hlk
set_option maxHeartbeats 4000000 in
set_option maxRecDepth 100000 in
theorem qL_acts_send (l : Launch) (hl9 : l.stackTraces = false) (D : va_G) (yy : Nat → ClassId) (h0 an : Nat) (B B2 : Nat → Nat) (F : jF) (G : jG) (F2 : jF) (G2 : jG) (M : jF) (sz : Nat) (p2 : Int32) (p3 : Int32) (p4 : Int32) (hok : okX11_send F G M p2 p3 p4) (hcod : (gX11_send F G M p2 p3 p4).1 = 0 ∨ (gX11_send F G M p2 p3 p4).1 = 3) : Met l yL_acts (Cond.codeWith yL_acts cL_acts 6 (some .int) [(0, 73, 74, 36)] :: wsL_law) rmL_acts (va_Pc [.ref h0, .int 2, .int p2, .int p3, .int p4] (jZ D yy (pV yy h0 an B B2 F G F2 G2 M) sz)) (va_Qi (fun (r : Int32) (u : ((Nat → Nat) × jS) × jF) => (gX11_send F G M p2 p3 p4 = (0, (r, (u.1.2, u.2))) ∨ ((gX11_send F G M p2 p3 p4).1 = 3 ∧ r = -9 ∧ u = ((B, (F, G)), M))) ∧ ∀ k, k < 100 → u.1.1 k = B k) (fun u t => jB D yy (va_A (pV yy h0 an B B2 F G F2 G2 M) sz) (pV yy h0 an u.1.1 B2 u.1.2.1 u.1.2.2 F2 G2 u.2) t) (va_A (pV yy h0 an B B2 F G F2 G2 M) sz)) 9 64 (va_A (pV yy h0 an B B2 F G F2 G2 M) sz) := by
  refine jMW (vs := [.ref h0, .int 2, .int p2, .int p3, .int p4]) (own := RL) (by decide +kernel) rfl (Nat.le_of_ble_eq_true rfl) ?_
  intro p e s m args below meth c ls Q hQ hargs S hr hlk htab hB hl
  obtain ⟨hx, hb, hml, hown, hts⟩ := S
  have hl : lv_has ls 6 [(0, .ref h0), (1, .int 2), (2, .int p2), (3, .int p3), (4, .int p4)] := hl
  obtain ⟨⟨⟨hsz, hV, hK, hD0⟩, hT⟩, hN⟩ := hB
  subst hsz
  have hD := hD0.self (sz := s.heap.size)
  generalize hZ : va_A (pV yy h0 an B B2 F G F2 G2 M) s.heap.size = Z at hD hQ hT
  have hA : ∀ q : Nat, s.heap.size ≤ q → Z q := fun q h => by rw [← hZ]; exact Or.inr h
  obtain ⟨H, hH⟩ : ∃ z, z = s.heap := ⟨_, rfl⟩
  obtain ⟨locs, hlocs⟩ : ∃ z : List Loc, z = [] := ⟨_, rfl⟩
  have hS : va_S Z s.heap H locs := by rw [hH, hlocs]; exact va_S.rf
  rw [← hH] at hV
  suffices hgo : W p l e rmL_acts s m args below meth c H locs 0 0 Q (F0 m 0 ls []) by rw [hH, hlocs] at hgo; exact hgo
  refine lv_iload_n hx hb (dd_of dL_acts_0 0 rfl) rfl (lv_at hl 1 rfl) ?_
  refine lv_if_ne (tgt := 24) hx hb (dd_of dL_acts_0 1 rfl) (by decide) (fun c1 => ?_) (fun c1 => absurd c1 (by decide))
  refine lv_iload_n hx hb (dd_of dL_acts_0 13 rfl) rfl (lv_at hl 1 rfl) ?_
  refine lv_iconst (v := 1) hx hb (dd_of dL_acts_0 14 rfl) (by decide) ?_
  refine lv_icmp_ne (tgt := 37) hx hb (dd_of dL_acts_0 15 rfl) (by decide) (fun c1 => ?_) (fun c1 => absurd c1 (by decide))
  refine lv_iload_n hx hb (dd_of dL_acts_0 20 rfl) rfl (lv_at hl 1 rfl) ?_
  refine lv_iconst (v := 2) hx hb (dd_of dL_acts_0 21 rfl) (by decide) ?_
  refine lv_icmp_ne (tgt := 53) hx hb (dd_of dL_acts_0 22 rfl) (by decide) (fun c1 => absurd rfl c1) (fun c1 => ?_)
  refine lv_aload_n hx hb (dd_of dL_acts_0 23 rfl) rfl (lv_at hl 0 rfl) ?_
  refine lv_iload_n hx hb (dd_of dL_acts_0 24 rfl) rfl (lv_at hl 2 rfl) ?_
  refine lv_iload_n hx hb (dd_of dL_acts_0 25 rfl) rfl (lv_at hl 3 rfl) ?_
  refine lv_iload hx hb (dd_of dL_acts_0 26 rfl) (lv_at hl 4 rfl) ?_
  refine ka_i (As := [.int p2, .int p3, .int p4]) (rest := []) (D := D) (yy := yy) (P0 := pV yy h0 an B B2 F G F2 G2 M) (gc := (gX11_send F G M p2 p3 p4).1) (w1 := fun u : ((Nat → Nat) × jS) × jF => pV yy h0 an u.1.1 B2 u.1.2.1 u.1.2.2 F2 G2 u.2) ⟨hx, hb, hml, hown, hts⟩ (qX11_send l hl9 D yy h0 an B B2 F G F2 G2 M H.size p2 p3 p4 hok) (cwV 3 hts (jgV gw2030 gw831 gw832 gw2 gw833) rfl rfl rfl (by decide +kernel) ⟨Nat.le_of_ble_eq_true rfl, Nat.le_of_ble_eq_true rfl⟩) hV hK hT hD hS hA (va_recv hK hV (ci := 11) (q0 := 0) rfl rfl) rfl hl.1 rfl (Nat.le_of_ble_eq_true rfl) (dd_of dL_acts_0 27 rfl) ⟨Nat.le_of_ble_eq_true rfl, Nat.le_of_ble_eq_true rfl⟩ (fun E ce q9 H locs hg0 hE9 hV hS z1 z2 z3 => ?_) (fun x u H locs hp hV hD hS => ?_)
  · rcases hcod with hcod | hcod
    · exact absurd hcod hg0
    · have hE9 : E = xS := by rw [hE9, hcod]; rfl
      subst hE9
      refine jcat hown hts htab [] (0, 73, 74, 36) [] rfl (fun z hz => absurd hz List.not_mem_nil) (by decide) (by decide) gw2027 (va_Nw.use rfl (hT.2.1.1 xS (Or.inr (Or.inr rfl)))) z1 z2 z3 ?_
      refine lv_astore hx hb (dd_of dL_acts_1 1 rfl) hl (by decide) rfl (fun ls hl => ?_)
      refine lv_bipush (v := (-9)) hx hb (dd_of dL_acts_1 2 rfl) (by decide) ?_
      subst hQ
      refine W.widen (k := 9) (n := 64) (Nat.le_of_ble_eq_true rfl) (Nat.le_of_ble_eq_true rfl) ?_
      exact W.iret (v := -9) hx hb hr (fun t ht hW => ⟨⟨-9, ((B, (F, G)), M), rfl, ⟨Or.inr ⟨hcod, rfl, rfl⟩, fun _ _ => rfl⟩, by rw [ht]; exact hV, va_K.moved hW.alike hK, hD⟩, hS.F ht⟩) hS.2.2 (dd_of dL_acts_1 3 rfl) hlk
  · obtain ⟨⟨B1, F1, G1⟩, M1⟩ := u
    obtain ⟨hp, hB1⟩ := hp
    have hB1 : ∀ k, k < 100 → B1 k = B k := hB1
    have hp : gX11_send F G M p2 p3 p4 = (0, (x, ((F1, G1), M1))) := hp
    have hV : va_P D vwCl (pV yy h0 an B1 B2 F1 G1 F2 G2 M1) H := hV
    have hD : va_D Z (pV yy h0 an B1 B2 F1 G1 F2 G2 M1) := hD
    refine lv_goto (tgt := 73) hx hb (dd_of dL_acts_0 28 rfl) (by decide) ?_
    subst hQ
    refine W.widen (k := 9) (n := 64) (Nat.le_of_ble_eq_true rfl) (Nat.le_of_ble_eq_true rfl) ?_
    exact W.iret (v := x) hx hb hr (fun t ht hW => ⟨⟨x, ((B1, (F1, G1)), M1), rfl, ⟨Or.inl hp, hB1⟩, by rw [ht]; exact hV, va_K.moved hW.alike hK, hD⟩, hS.F ht⟩) hS.2.2 (dd_of dL_acts_1 0 rfl) hlk
set_option maxHeartbeats 4000000 in
set_option maxRecDepth 100000 in
theorem qL_acts_raise (l : Launch) (hl9 : l.stackTraces = false) (D : va_G) (yy : Nat → ClassId) (h0 an : Nat) (B B2 : Nat → Nat) (F : jF) (G : jG) (F2 : jF) (G2 : jG) (M : jF) (sz : Nat) (p2 : Int32) (p3 : Int32) (p4 : Int32) (hok : okX11_raise F G M p2 p3 p4) (hcod : (gX11_raise F G M p2 p3 p4).1 = 0 ∨ (gX11_raise F G M p2 p3 p4).1 = 3) : Met l yL_acts (Cond.codeWith yL_acts cL_acts 6 (some .int) [(0, 73, 74, 36)] :: wsL_law) rmL_acts (va_Pc [.ref h0, .int 3, .int p2, .int p3, .int p4] (jZ D yy (pV yy h0 an B B2 F G F2 G2 M) sz)) (va_Qi (fun (r : Int32) (u : ((Nat → Nat) × jS) × jF) => (gX11_raise F G M p2 p3 p4 = (0, (r, (u.1.2, u.2))) ∨ ((gX11_raise F G M p2 p3 p4).1 = 3 ∧ r = -9 ∧ u = ((B, (F, G)), M))) ∧ ∀ k, k < 100 → u.1.1 k = B k) (fun u t => jB D yy (va_A (pV yy h0 an B B2 F G F2 G2 M) sz) (pV yy h0 an u.1.1 B2 u.1.2.1 u.1.2.2 F2 G2 u.2) t) (va_A (pV yy h0 an B B2 F G F2 G2 M) sz)) 9 64 (va_A (pV yy h0 an B B2 F G F2 G2 M) sz) := by
  refine jMW (vs := [.ref h0, .int 3, .int p2, .int p3, .int p4]) (own := RL) (by decide +kernel) rfl (Nat.le_of_ble_eq_true rfl) ?_
  intro p e s m args below meth c ls Q hQ hargs S hr hlk htab hB hl
  obtain ⟨hx, hb, hml, hown, hts⟩ := S
  have hl : lv_has ls 6 [(0, .ref h0), (1, .int 3), (2, .int p2), (3, .int p3), (4, .int p4)] := hl
  obtain ⟨⟨⟨hsz, hV, hK, hD0⟩, hT⟩, hN⟩ := hB
  subst hsz
  have hD := hD0.self (sz := s.heap.size)
  generalize hZ : va_A (pV yy h0 an B B2 F G F2 G2 M) s.heap.size = Z at hD hQ hT
  have hA : ∀ q : Nat, s.heap.size ≤ q → Z q := fun q h => by rw [← hZ]; exact Or.inr h
  obtain ⟨H, hH⟩ : ∃ z, z = s.heap := ⟨_, rfl⟩
  obtain ⟨locs, hlocs⟩ : ∃ z : List Loc, z = [] := ⟨_, rfl⟩
  have hS : va_S Z s.heap H locs := by rw [hH, hlocs]; exact va_S.rf
  rw [← hH] at hV
  suffices hgo : W p l e rmL_acts s m args below meth c H locs 0 0 Q (F0 m 0 ls []) by rw [hH, hlocs] at hgo; exact hgo
  refine lv_iload_n hx hb (dd_of dL_acts_0 0 rfl) rfl (lv_at hl 1 rfl) ?_
  refine lv_if_ne (tgt := 24) hx hb (dd_of dL_acts_0 1 rfl) (by decide) (fun c1 => ?_) (fun c1 => absurd c1 (by decide))
  refine lv_iload_n hx hb (dd_of dL_acts_0 13 rfl) rfl (lv_at hl 1 rfl) ?_
  refine lv_iconst (v := 1) hx hb (dd_of dL_acts_0 14 rfl) (by decide) ?_
  refine lv_icmp_ne (tgt := 37) hx hb (dd_of dL_acts_0 15 rfl) (by decide) (fun c1 => ?_) (fun c1 => absurd c1 (by decide))
  refine lv_iload_n hx hb (dd_of dL_acts_0 20 rfl) rfl (lv_at hl 1 rfl) ?_
  refine lv_iconst (v := 2) hx hb (dd_of dL_acts_0 21 rfl) (by decide) ?_
  refine lv_icmp_ne (tgt := 53) hx hb (dd_of dL_acts_0 22 rfl) (by decide) (fun c1 => ?_) (fun c1 => absurd c1 (by decide))
  refine lv_iload_n hx hb (dd_of dL_acts_0 29 rfl) rfl (lv_at hl 1 rfl) ?_
  refine lv_iconst (v := 3) hx hb (dd_of dL_acts_0 30 rfl) (by decide) ?_
  refine lv_icmp_ne (tgt := 69) hx hb (dd_of dL_acts_0 31 rfl) (by decide) (fun c1 => absurd rfl c1) (fun c1 => ?_)
  refine lv_aload_n hx hb (dd_of dL_acts_0 32 rfl) rfl (lv_at hl 0 rfl) ?_
  refine lv_iload_n hx hb (dd_of dL_acts_0 33 rfl) rfl (lv_at hl 2 rfl) ?_
  refine lv_iload_n hx hb (dd_of dL_acts_0 34 rfl) rfl (lv_at hl 3 rfl) ?_
  refine lv_iload hx hb (dd_of dL_acts_0 35 rfl) (lv_at hl 4 rfl) ?_
  refine ka_i (As := [.int p2, .int p3, .int p4]) (rest := []) (D := D) (yy := yy) (P0 := pV yy h0 an B B2 F G F2 G2 M) (gc := (gX11_raise F G M p2 p3 p4).1) (w1 := fun u : ((Nat → Nat) × jS) × jF => pV yy h0 an u.1.1 B2 u.1.2.1 u.1.2.2 F2 G2 u.2) ⟨hx, hb, hml, hown, hts⟩ (qX11_raise l hl9 D yy h0 an B B2 F G F2 G2 M H.size p2 p3 p4 hok) (cwV 3 hts (jgV gw2031 gw864 gw865 gw2 gw866) rfl rfl rfl (by decide +kernel) ⟨Nat.le_of_ble_eq_true rfl, Nat.le_of_ble_eq_true rfl⟩) hV hK hT hD hS hA (va_recv hK hV (ci := 11) (q0 := 0) rfl rfl) rfl hl.1 rfl (Nat.le_of_ble_eq_true rfl) (dd_of dL_acts_0 36 rfl) ⟨Nat.le_of_ble_eq_true rfl, Nat.le_of_ble_eq_true rfl⟩ (fun E ce q9 H locs hg0 hE9 hV hS z1 z2 z3 => ?_) (fun x u H locs hp hV hD hS => ?_)
  · rcases hcod with hcod | hcod
    · exact absurd hcod hg0
    · have hE9 : E = xS := by rw [hE9, hcod]; rfl
      subst hE9
      refine jcat hown hts htab [] (0, 73, 74, 36) [] rfl (fun z hz => absurd hz List.not_mem_nil) (by decide) (by decide) gw2027 (va_Nw.use rfl (hT.2.1.1 xS (Or.inr (Or.inr rfl)))) z1 z2 z3 ?_
      refine lv_astore hx hb (dd_of dL_acts_1 1 rfl) hl (by decide) rfl (fun ls hl => ?_)
      refine lv_bipush (v := (-9)) hx hb (dd_of dL_acts_1 2 rfl) (by decide) ?_
      subst hQ
      refine W.widen (k := 9) (n := 64) (Nat.le_of_ble_eq_true rfl) (Nat.le_of_ble_eq_true rfl) ?_
      exact W.iret (v := -9) hx hb hr (fun t ht hW => ⟨⟨-9, ((B, (F, G)), M), rfl, ⟨Or.inr ⟨hcod, rfl, rfl⟩, fun _ _ => rfl⟩, by rw [ht]; exact hV, va_K.moved hW.alike hK, hD⟩, hS.F ht⟩) hS.2.2 (dd_of dL_acts_1 3 rfl) hlk
  · obtain ⟨⟨B1, F1, G1⟩, M1⟩ := u
    obtain ⟨hp, hB1⟩ := hp
    have hB1 : ∀ k, k < 100 → B1 k = B k := hB1
    have hp : gX11_raise F G M p2 p3 p4 = (0, (x, ((F1, G1), M1))) := hp
    have hV : va_P D vwCl (pV yy h0 an B1 B2 F1 G1 F2 G2 M1) H := hV
    have hD : va_D Z (pV yy h0 an B1 B2 F1 G1 F2 G2 M1) := hD
    refine lv_goto (tgt := 73) hx hb (dd_of dL_acts_0 37 rfl) (by decide) ?_
    subst hQ
    refine W.widen (k := 9) (n := 64) (Nat.le_of_ble_eq_true rfl) (Nat.le_of_ble_eq_true rfl) ?_
    exact W.iret (v := x) hx hb hr (fun t ht hW => ⟨⟨x, ((B1, (F1, G1)), M1), rfl, ⟨Or.inl hp, hB1⟩, by rw [ht]; exact hV, va_K.moved hW.alike hK, hD⟩, hS.F ht⟩) hS.2.2 (dd_of dL_acts_1 0 rfl) hlk
set_option maxHeartbeats 4000000 in
set_option maxRecDepth 100000 in
theorem qL_acts_endYear (l : Launch) (hl9 : l.stackTraces = false) (D : va_G) (yy : Nat → ClassId) (h0 an : Nat) (B B2 : Nat → Nat) (F : jF) (G : jG) (F2 : jF) (G2 : jG) (M : jF) (sz : Nat) (p2 : Int32) (p3 : Int32) (p4 : Int32) (hok : okX11_endYear F G M) (hcod : (gX11_endYear F G M).1 = 0 ∨ (gX11_endYear F G M).1 = 3) : Met l yL_acts (Cond.codeWith yL_acts cL_acts 6 (some .int) [(0, 73, 74, 36)] :: wsL_law) rmL_acts (va_Pc [.ref h0, .int 4, .int p2, .int p3, .int p4] (jZ D yy (pV yy h0 an B B2 F G F2 G2 M) sz)) (va_Qi (fun (r : Int32) (u : ((Nat → Nat) × jS) × jF) => (gX11_endYear F G M = (0, (r, (u.1.2, u.2))) ∨ ((gX11_endYear F G M).1 = 3 ∧ r = -9 ∧ u = ((B, (F, G)), M))) ∧ ∀ k, k < 100 → u.1.1 k = B k) (fun u t => jB D yy (va_A (pV yy h0 an B B2 F G F2 G2 M) sz) (pV yy h0 an u.1.1 B2 u.1.2.1 u.1.2.2 F2 G2 u.2) t) (va_A (pV yy h0 an B B2 F G F2 G2 M) sz)) 9 64 (va_A (pV yy h0 an B B2 F G F2 G2 M) sz) := by
  refine jMW (vs := [.ref h0, .int 4, .int p2, .int p3, .int p4]) (own := RL) (by decide +kernel) rfl (Nat.le_of_ble_eq_true rfl) ?_
  intro p e s m args below meth c ls Q hQ hargs S hr hlk htab hB hl
  obtain ⟨hx, hb, hml, hown, hts⟩ := S
  have hl : lv_has ls 6 [(0, .ref h0), (1, .int 4), (2, .int p2), (3, .int p3), (4, .int p4)] := hl
  obtain ⟨⟨⟨hsz, hV, hK, hD0⟩, hT⟩, hN⟩ := hB
  subst hsz
  have hD := hD0.self (sz := s.heap.size)
  generalize hZ : va_A (pV yy h0 an B B2 F G F2 G2 M) s.heap.size = Z at hD hQ hT
  have hA : ∀ q : Nat, s.heap.size ≤ q → Z q := fun q h => by rw [← hZ]; exact Or.inr h
  obtain ⟨H, hH⟩ : ∃ z, z = s.heap := ⟨_, rfl⟩
  obtain ⟨locs, hlocs⟩ : ∃ z : List Loc, z = [] := ⟨_, rfl⟩
  have hS : va_S Z s.heap H locs := by rw [hH, hlocs]; exact va_S.rf
  rw [← hH] at hV
  suffices hgo : W p l e rmL_acts s m args below meth c H locs 0 0 Q (F0 m 0 ls []) by rw [hH, hlocs] at hgo; exact hgo
  refine lv_iload_n hx hb (dd_of dL_acts_0 0 rfl) rfl (lv_at hl 1 rfl) ?_
  refine lv_if_ne (tgt := 24) hx hb (dd_of dL_acts_0 1 rfl) (by decide) (fun c1 => ?_) (fun c1 => absurd c1 (by decide))
  refine lv_iload_n hx hb (dd_of dL_acts_0 13 rfl) rfl (lv_at hl 1 rfl) ?_
  refine lv_iconst (v := 1) hx hb (dd_of dL_acts_0 14 rfl) (by decide) ?_
  refine lv_icmp_ne (tgt := 37) hx hb (dd_of dL_acts_0 15 rfl) (by decide) (fun c1 => ?_) (fun c1 => absurd c1 (by decide))
  refine lv_iload_n hx hb (dd_of dL_acts_0 20 rfl) rfl (lv_at hl 1 rfl) ?_
  refine lv_iconst (v := 2) hx hb (dd_of dL_acts_0 21 rfl) (by decide) ?_
  refine lv_icmp_ne (tgt := 53) hx hb (dd_of dL_acts_0 22 rfl) (by decide) (fun c1 => ?_) (fun c1 => absurd c1 (by decide))
  refine lv_iload_n hx hb (dd_of dL_acts_0 29 rfl) rfl (lv_at hl 1 rfl) ?_
  refine lv_iconst (v := 3) hx hb (dd_of dL_acts_0 30 rfl) (by decide) ?_
  refine lv_icmp_ne (tgt := 69) hx hb (dd_of dL_acts_0 31 rfl) (by decide) (fun c1 => ?_) (fun c1 => absurd c1 (by decide))
  refine lv_aload_n hx hb (dd_of dL_acts_0 38 rfl) rfl (lv_at hl 0 rfl) ?_
  refine ka_i (As := []) (rest := []) (D := D) (yy := yy) (P0 := pV yy h0 an B B2 F G F2 G2 M) (gc := (gX11_endYear F G M).1) (w1 := fun u : ((Nat → Nat) × jS) × jF => pV yy h0 an u.1.1 B2 u.1.2.1 u.1.2.2 F2 G2 u.2) ⟨hx, hb, hml, hown, hts⟩ (qX11_endYear l hl9 D yy h0 an B B2 F G F2 G2 M H.size  hok) (cwV 0 hts (jgV gw2032 gw960 gw961 gw2 gw962) rfl rfl rfl (by decide +kernel) ⟨Nat.le_of_ble_eq_true rfl, Nat.le_of_ble_eq_true rfl⟩) hV hK hT hD hS hA (va_recv hK hV (ci := 11) (q0 := 0) rfl rfl) rfl hl.1 rfl (Nat.le_of_ble_eq_true rfl) (dd_of dL_acts_0 39 rfl) ⟨Nat.le_of_ble_eq_true rfl, Nat.le_of_ble_eq_true rfl⟩ (fun E ce q9 H locs hg0 hE9 hV hS z1 z2 z3 => ?_) (fun x u H locs hp hV hD hS => ?_)
  · rcases hcod with hcod | hcod
    · exact absurd hcod hg0
    · have hE9 : E = xS := by rw [hE9, hcod]; rfl
      subst hE9
      refine jcat hown hts htab [] (0, 73, 74, 36) [] rfl (fun z hz => absurd hz List.not_mem_nil) (by decide) (by decide) gw2027 (va_Nw.use rfl (hT.2.1.1 xS (Or.inr (Or.inr rfl)))) z1 z2 z3 ?_
      refine lv_astore hx hb (dd_of dL_acts_1 1 rfl) hl (by decide) rfl (fun ls hl => ?_)
      refine lv_bipush (v := (-9)) hx hb (dd_of dL_acts_1 2 rfl) (by decide) ?_
      subst hQ
      refine W.widen (k := 9) (n := 64) (Nat.le_of_ble_eq_true rfl) (Nat.le_of_ble_eq_true rfl) ?_
      exact W.iret (v := -9) hx hb hr (fun t ht hW => ⟨⟨-9, ((B, (F, G)), M), rfl, ⟨Or.inr ⟨hcod, rfl, rfl⟩, fun _ _ => rfl⟩, by rw [ht]; exact hV, va_K.moved hW.alike hK, hD⟩, hS.F ht⟩) hS.2.2 (dd_of dL_acts_1 3 rfl) hlk
  · obtain ⟨⟨B1, F1, G1⟩, M1⟩ := u
    obtain ⟨hp, hB1⟩ := hp
    have hB1 : ∀ k, k < 100 → B1 k = B k := hB1
    have hp : gX11_endYear F G M = (0, (x, ((F1, G1), M1))) := hp
    have hV : va_P D vwCl (pV yy h0 an B1 B2 F1 G1 F2 G2 M1) H := hV
    have hD : va_D Z (pV yy h0 an B1 B2 F1 G1 F2 G2 M1) := hD
    subst hQ
    refine W.widen (k := 9) (n := 64) (Nat.le_of_ble_eq_true rfl) (Nat.le_of_ble_eq_true rfl) ?_
    exact W.iret (v := x) hx hb hr (fun t ht hW => ⟨⟨x, ((B1, (F1, G1)), M1), rfl, ⟨Or.inl hp, hB1⟩, by rw [ht]; exact hV, va_K.moved hW.alike hK, hD⟩, hS.F ht⟩) hS.2.2 (dd_of dL_acts_1 0 rfl) hlk
