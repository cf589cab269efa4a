-- what the law asks after each turn: the water, the things, the shares
def sW (Wv : Nat → Int64) : Nat → Int64
  | 0 => 0
  | n + 1 => sW Wv n + Wv n
def sI (Sh : Nat → Int32) : Nat → Int32
  | 0 => 0
  | n + 1 => sI Sh n + Sh n
abbrev rmL_water : Room := { frames := 8, cells := 180, slots := 1280, locals := 220 }
abbrev rmL_things : Room := { frames := 8, cells := 1000, slots := 8000, locals := 220 }
abbrev rmL_shares : Room := { frames := 8, cells := 72, slots := 512, locals := 220 }
set_option maxHeartbeats 4000000 in
set_option maxRecDepth 100000 in
theorem qL_water (l : Launch) (hl9 : l.stackTraces = false) (D : va_G) (yy : Nat → ClassId) (h0 an : Nat) (B B2 : Nat → Nat) (F : jF) (G : jG) (F2 : jF) (G2 : jG) (M : jF) (sz nb : Nat) (hnb : nb ≤ 4) (Wv : Nat → Int64) (g0 g1 g2 g3 : Int64) (hw : ∀ k, k < nb → okX11_water F G M (nI k) ∧ gX11_water F G M (nI k) = (0, Wv k) ∧ ¬ Wv k < 0) (hh : ∀ k, k < nb → ∃ v, okX11_harm F G M (nI k) ∧ gX11_harm F G M (nI k) = (0, v) ∧ ¬ v < 0) (hv : ∀ k, k < nb → ∃ v, okX11_level F G M (nI k) ∧ gX11_level F G M (nI k) = (0, v) ∧ ¬ v < (-1000000)) (hg0 : okX11_ledger F G M 0 ∧ gX11_ledger F G M 0 = (0, g0)) (hg1 : okX11_ledger F G M 1 ∧ gX11_ledger F G M 1 = (0, g1)) (hg2 : okX11_ledger F G M 2 ∧ gX11_ledger F G M 2 = (0, g2)) (hg3 : okX11_ledger F G M 3 ∧ gX11_ledger F G M 3 = (0, g3)) (hs : sW Wv nb = g0 + g1 + g2 - g3) : Met l yL_water (Cond.code yL_water cL_water 6 (some .boolean) :: wsL_law) rmL_water (va_Pc [.ref h0, .int (nI nb)] (jZ D yy (pV yy h0 an B B2 F G F2 G2 M) sz)) (va_Qi (fun (r : Int32) (_ : Unit) => r = 1) (fun _ t => jB D yy (va_A (pV yy h0 an B B2 F G F2 G2 M) sz) (pV yy h0 an B B2 F G F2 G2 M) t) (va_A (pV yy h0 an B B2 F G F2 G2 M) sz)) 180 1280 (va_A (pV yy h0 an B B2 F G F2 G2 M) sz) := by
  refine jM (vs := [.ref h0, .int (nI nb)]) (own := RL) (by decide +kernel) rfl (Nat.le_of_ble_eq_true rfl) ?_
  intro p e s m args below meth c ls Q hQ hargs S hr hlk hinit hB hl
  obtain ⟨hx, hb, hml, hown, hts⟩ := S
  have hl : lv_has ls 6 [(0, .ref h0), (1, .int (nI nb))] := hl
  obtain ⟨⟨⟨hsz, hV, hK, hD0⟩, hT⟩, hN⟩ := hB
  subst hsz
  have hD := hD0.self (sz := s.heap.size)
  generalize hZ : va_A (pV yy h0 an B B2 F G F2 G2 M) s.heap.size = Z at hD hQ hT
  have hA : ∀ q : Nat, s.heap.size ≤ q → Z q := fun q h => by rw [← hZ]; exact Or.inr h
  obtain ⟨H, hH⟩ : ∃ z, z = s.heap := ⟨_, rfl⟩
  obtain ⟨locs, hlocs⟩ : ∃ z : List Loc, z = [] := ⟨_, rfl⟩
  have hS : va_S Z s.heap H locs := by rw [hH, hlocs]; exact va_S.rf
  rw [← hH] at hV
  suffices hgo : W p l e rmL_water s m args below meth c H locs 0 0 Q (F0 m 0 ls []) by rw [hH, hlocs] at hgo; exact hgo
  have loop : ∀ (d k : Nat) (H : Heap) (locs : List Loc) (cells slots : Nat) (ls : Array Slot), k + d = nb → cells ≤ 36 * k → slots ≤ 256 * k → va_P D vwCl (pV yy h0 an B B2 F G F2 G2 M) H → va_S Z s.heap H locs → lv_has ls 6 [(5, .int (nI k)), (4, .int 1), (2, .long (sW Wv k)), (0, .ref h0), (1, .int (nI nb))] → W p l e rmL_water s m args below meth c H locs cells slots Q (F0 m 8 ls []) := by
    intro d
    induction d with
    | zero =>
      intro k H locs cells slots ls hd hc hs9 hV hS hl
      have hk : k = nb := hd
      subst hk
      refine lv_iload hx hb (dd_of dL_water_0 6 rfl) (lv_at hl 0 rfl) ?_
      refine lv_iload_n hx hb (dd_of dL_water_0 7 rfl) rfl (lv_at hl 4 rfl) ?_
      refine lv_icmp_ge (tgt := 76) hx hb (dd_of dL_water_0 8 rfl) (by decide) (fun c1 => ?_) (fun c1 => absurd (i32le.mpr (Int.le_refl _)) c1)
      refine lv_iload hx hb (dd_of dL_water_1 1 rfl) (lv_at hl 1 rfl) ?_
      refine lv_if_eq (tgt := 113) hx hb (dd_of dL_water_1 2 rfl) (by decide) (fun c1 => absurd c1 (by decide)) (fun c1 => ?_)
      refine lv_lload_n hx hb (dd_of dL_water_1 3 rfl) rfl (lv_at hl 2 rfl) ?_
      refine lv_aload_n hx hb (dd_of dL_water_1 4 rfl) rfl (lv_at hl 3 rfl) ?_
      refine lv_iconst (v := 0) hx hb (dd_of dL_water_1 5 rfl) (by decide) ?_
      refine kr_l (As := [.int 0]) (rest := [.long (sW Wv k)]) (D := D) (yy := yy) (P0 := pV yy h0 an B B2 F G F2 G2 M) (gc := (gX11_ledger F G M 0).1) ⟨hx, hb, hml, hown, hts⟩ (qX11_ledger l hl9 D yy h0 an B B2 F G F2 G2 M H.size 0 hg0.1) (congrArg Prod.fst hg0.2) (cwV 1 hts (jgV gw2048 gw1025 gw1026 gw2 gw1027) rfl rfl rfl (by decide +kernel) ⟨Nat.le_of_ble_eq_true rfl, Nat.le_of_ble_eq_true rfl⟩) hV hK hT hS hA (va_recv hK hV (ci := 11) (q0 := 0) rfl rfl) rfl hl.1 rfl (Nat.le_of_ble_eq_true rfl) (dd_of dL_water_1 6 rfl) ⟨(show cells + 9 ≤ 180 by omega), (show slots + 64 ≤ 1280 by omega)⟩ (fun x0 H locs hp hV hS => ?_)
      have ex9 : g0 = x0 := (congrArg Prod.snd ((hp : gX11_ledger F G M 0 = (0, x0)).symm.trans hg0.2)).symm
      subst ex9
      refine lv_aload_n hx hb (dd_of dL_water_1 7 rfl) rfl (lv_at hl 3 rfl) ?_
      refine lv_iconst (v := 1) hx hb (dd_of dL_water_1 8 rfl) (by decide) ?_
      refine kr_l (As := [.int 1]) (rest := [.long g0, .long (sW Wv k)]) (D := D) (yy := yy) (P0 := pV yy h0 an B B2 F G F2 G2 M) (gc := (gX11_ledger F G M 1).1) ⟨hx, hb, hml, hown, hts⟩ (qX11_ledger l hl9 D yy h0 an B B2 F G F2 G2 M H.size 1 hg1.1) (congrArg Prod.fst hg1.2) (cwV 1 hts (jgV gw2048 gw1025 gw1026 gw2 gw1027) rfl rfl rfl (by decide +kernel) ⟨Nat.le_of_ble_eq_true rfl, Nat.le_of_ble_eq_true rfl⟩) hV hK hT hS hA (va_recv hK hV (ci := 11) (q0 := 0) rfl rfl) rfl hl.1 rfl (Nat.le_of_ble_eq_true rfl) (dd_of dL_water_1 9 rfl) ⟨(show cells + 9 + 9 ≤ 180 by omega), (show slots + 64 + 64 ≤ 1280 by omega)⟩ (fun x1 H locs hp hV hS => ?_)
      have ex9 : g1 = x1 := (congrArg Prod.snd ((hp : gX11_ledger F G M 1 = (0, x1)).symm.trans hg1.2)).symm
      subst ex9
      refine lv_ladd hx hb (dd_of dL_water_1 10 rfl) ?_
      refine lv_aload_n hx hb (dd_of dL_water_1 11 rfl) rfl (lv_at hl 3 rfl) ?_
      refine lv_iconst (v := 2) hx hb (dd_of dL_water_1 12 rfl) (by decide) ?_
      refine kr_l (As := [.int 2]) (rest := [.long (g0 + g1), .long (sW Wv k)]) (D := D) (yy := yy) (P0 := pV yy h0 an B B2 F G F2 G2 M) (gc := (gX11_ledger F G M 2).1) ⟨hx, hb, hml, hown, hts⟩ (qX11_ledger l hl9 D yy h0 an B B2 F G F2 G2 M H.size 2 hg2.1) (congrArg Prod.fst hg2.2) (cwV 1 hts (jgV gw2048 gw1025 gw1026 gw2 gw1027) rfl rfl rfl (by decide +kernel) ⟨Nat.le_of_ble_eq_true rfl, Nat.le_of_ble_eq_true rfl⟩) hV hK hT hS hA (va_recv hK hV (ci := 11) (q0 := 0) rfl rfl) rfl hl.1 rfl (Nat.le_of_ble_eq_true rfl) (dd_of dL_water_1 13 rfl) ⟨(show cells + 9 + 9 + 9 ≤ 180 by omega), (show slots + 64 + 64 + 64 ≤ 1280 by omega)⟩ (fun x2 H locs hp hV hS => ?_)
      have ex9 : g2 = x2 := (congrArg Prod.snd ((hp : gX11_ledger F G M 2 = (0, x2)).symm.trans hg2.2)).symm
      subst ex9
      refine lv_ladd hx hb (dd_of dL_water_1 14 rfl) ?_
      refine lv_aload_n hx hb (dd_of dL_water_1 15 rfl) rfl (lv_at hl 3 rfl) ?_
      refine lv_iconst (v := 3) hx hb (dd_of dL_water_1 16 rfl) (by decide) ?_
      refine kr_l (As := [.int 3]) (rest := [.long ((g0 + g1) + g2), .long (sW Wv k)]) (D := D) (yy := yy) (P0 := pV yy h0 an B B2 F G F2 G2 M) (gc := (gX11_ledger F G M 3).1) ⟨hx, hb, hml, hown, hts⟩ (qX11_ledger l hl9 D yy h0 an B B2 F G F2 G2 M H.size 3 hg3.1) (congrArg Prod.fst hg3.2) (cwV 1 hts (jgV gw2048 gw1025 gw1026 gw2 gw1027) rfl rfl rfl (by decide +kernel) ⟨Nat.le_of_ble_eq_true rfl, Nat.le_of_ble_eq_true rfl⟩) hV hK hT hS hA (va_recv hK hV (ci := 11) (q0 := 0) rfl rfl) rfl hl.1 rfl (Nat.le_of_ble_eq_true rfl) (dd_of dL_water_1 17 rfl) ⟨(show cells + 9 + 9 + 9 + 9 ≤ 180 by omega), (show slots + 64 + 64 + 64 + 64 ≤ 1280 by omega)⟩ (fun x3 H locs hp hV hS => ?_)
      have ex9 : g3 = x3 := (congrArg Prod.snd ((hp : gX11_ledger F G M 3 = (0, x3)).symm.trans hg3.2)).symm
      subst ex9
      refine lv_lsub hx hb (dd_of dL_water_1 18 rfl) ?_
      refine jl_ne (tgt := 113) hx hb (dd_of dL_water_1 19 rfl) (dd_of dL_water_1 20 rfl) (by decide) (fun c1 => absurd hs c1) (fun c1 => ?_)
      refine lv_iconst (v := 1) hx hb (dd_of dL_water_1 21 rfl) (by decide) ?_
      refine lv_goto (tgt := 114) hx hb (dd_of dL_water_1 22 rfl) (by decide) ?_
      subst hQ
      refine W.widen (k := 180) (n := 1280) (show cells + 9 + 9 + 9 + 9 ≤ 180 by omega) (show slots + 64 + 64 + 64 + 64 ≤ 1280 by omega) ?_
      exact W.zret (ty := .boolean) (v := 1) hx hb hr (jb_nz (Or.inr rfl)) (fun t ht hW => ⟨⟨1, (), rfl, rfl, by rw [ht]; exact hV, va_K.moved hW.alike hK, hD⟩, hS.F ht⟩) hS.2.2 (dd_of dL_water_1 24 rfl) hlk
    | succ d ih =>
      intro k H locs cells slots ls hd hc hs9 hV hS hl
      obtain ⟨w1, w2, w3⟩ := hw k (by omega)
      obtain ⟨hm, m1, m2, m3⟩ := hh k (by omega)
      obtain ⟨vm, v1, v2, v3⟩ := hv k (by omega)
      refine lv_iload hx hb (dd_of dL_water_0 6 rfl) (lv_at hl 0 rfl) ?_
      refine lv_iload_n hx hb (dd_of dL_water_0 7 rfl) rfl (lv_at hl 4 rfl) ?_
      refine lv_icmp_ge (tgt := 76) hx hb (dd_of dL_water_0 8 rfl) (by decide) (fun c1 => absurd (i32le.mp c1) (by rw [nI_toInt (by omega), nI_toInt (by omega)]; omega)) (fun c1 => ?_)
      refine lv_iload hx hb (dd_of dL_water_0 9 rfl) (lv_at hl 1 rfl) ?_
      refine lv_if_eq (tgt := 76) hx hb (dd_of dL_water_0 10 rfl) (by decide) (fun c1 => absurd c1 (by decide)) (fun c1 => ?_)
      refine lv_lload_n hx hb (dd_of dL_water_0 11 rfl) rfl (lv_at hl 2 rfl) ?_
      refine lv_aload_n hx hb (dd_of dL_water_0 12 rfl) rfl (lv_at hl 3 rfl) ?_
      refine lv_iload hx hb (dd_of dL_water_0 13 rfl) (lv_at hl 0 rfl) ?_
      refine kr_l (As := [.int (nI k)]) (rest := [.long (sW Wv k)]) (D := D) (yy := yy) (P0 := pV yy h0 an B B2 F G F2 G2 M) (gc := (gX11_water F G M (nI k)).1) ⟨hx, hb, hml, hown, hts⟩ (qX11_water l hl9 D yy h0 an B B2 F G F2 G2 M H.size (nI k) w1) (congrArg Prod.fst w2) (cwV 1 hts (jgV gw2045 gw1001 gw1002 gw2 gw1003) rfl rfl rfl (by decide +kernel) ⟨Nat.le_of_ble_eq_true rfl, Nat.le_of_ble_eq_true rfl⟩) hV hK hT hS hA (va_recv hK hV (ci := 11) (q0 := 0) rfl rfl) rfl hl.1 rfl (Nat.le_of_ble_eq_true rfl) (dd_of dL_water_0 14 rfl) ⟨(show cells + 9 ≤ 180 by omega), (show slots + 64 ≤ 1280 by omega)⟩ (fun x1 H locs hp hV hS => ?_)
      have ex9 : (Wv k) = x1 := (congrArg Prod.snd ((hp : gX11_water F G M (nI k) = (0, x1)).symm.trans w2)).symm
      subst ex9
      refine lv_ladd hx hb (dd_of dL_water_0 15 rfl) ?_
      refine lv_lstore_n (lv' := [(2, .long ((sW Wv k) + (Wv k))), (5, .int (nI k)), (4, .int 1), (0, .ref h0), (1, .int (nI nb))]) hx hb (dd_of dL_water_0 16 rfl) rfl hl (by decide) rfl (fun ls hl => ?_)
      refine lv_aload_n hx hb (dd_of dL_water_0 17 rfl) rfl (lv_at hl 3 rfl) ?_
      refine lv_iload hx hb (dd_of dL_water_0 18 rfl) (lv_at hl 1 rfl) ?_
      refine kr_l (As := [.int (nI k)]) (rest := []) (D := D) (yy := yy) (P0 := pV yy h0 an B B2 F G F2 G2 M) (gc := (gX11_water F G M (nI k)).1) ⟨hx, hb, hml, hown, hts⟩ (qX11_water l hl9 D yy h0 an B B2 F G F2 G2 M H.size (nI k) w1) (congrArg Prod.fst w2) (cwV 1 hts (jgV gw2045 gw1001 gw1002 gw2 gw1003) rfl rfl rfl (by decide +kernel) ⟨Nat.le_of_ble_eq_true rfl, Nat.le_of_ble_eq_true rfl⟩) hV hK hT hS hA (va_recv hK hV (ci := 11) (q0 := 0) rfl rfl) rfl hl.1 rfl (Nat.le_of_ble_eq_true rfl) (dd_of dL_water_0 19 rfl) ⟨(show cells + 9 + 9 ≤ 180 by omega), (show slots + 64 + 64 ≤ 1280 by omega)⟩ (fun x2 H locs hp hV hS => ?_)
      have ex9 : (Wv k) = x2 := (congrArg Prod.snd ((hp : gX11_water F G M (nI k) = (0, x2)).symm.trans w2)).symm
      subst ex9
      refine lv_lconst (v := 0) hx hb (dd_of dL_water_0 20 rfl) (by decide) ?_
      refine jl_lt (tgt := 67) hx hb (dd_of dL_water_0 21 rfl) (dd_of dL_water_0 22 rfl) (by decide) (fun c1 => absurd c1 w3) (fun c1 => ?_)
      refine lv_aload_n hx hb (dd_of dL_water_0 23 rfl) rfl (lv_at hl 3 rfl) ?_
      refine lv_iload hx hb (dd_of dL_water_0 24 rfl) (lv_at hl 1 rfl) ?_
      refine kr_l (As := [.int (nI k)]) (rest := []) (D := D) (yy := yy) (P0 := pV yy h0 an B B2 F G F2 G2 M) (gc := (gX11_harm F G M (nI k)).1) ⟨hx, hb, hml, hown, hts⟩ (qX11_harm l hl9 D yy h0 an B B2 F G F2 G2 M H.size (nI k) m1) (congrArg Prod.fst m2) (cwV 1 hts (jgV gw2046 gw1013 gw1014 gw2 gw1015) rfl rfl rfl (by decide +kernel) ⟨Nat.le_of_ble_eq_true rfl, Nat.le_of_ble_eq_true rfl⟩) hV hK hT hS hA (va_recv hK hV (ci := 11) (q0 := 0) rfl rfl) rfl hl.1 rfl (Nat.le_of_ble_eq_true rfl) (dd_of dL_water_0 25 rfl) ⟨(show cells + 9 + 9 + 9 ≤ 180 by omega), (show slots + 64 + 64 + 64 ≤ 1280 by omega)⟩ (fun x3 H locs hp hV hS => ?_)
      have ex9 : hm = x3 := (congrArg Prod.snd ((hp : gX11_harm F G M (nI k) = (0, x3)).symm.trans m2)).symm
      subst ex9
      refine lv_lconst (v := 0) hx hb (dd_of dL_water_0 26 rfl) (by decide) ?_
      refine jl_lt (tgt := 67) hx hb (dd_of dL_water_0 27 rfl) (dd_of dL_water_0 28 rfl) (by decide) (fun c1 => absurd c1 m3) (fun c1 => ?_)
      refine lv_aload_n hx hb (dd_of dL_water_0 29 rfl) rfl (lv_at hl 3 rfl) ?_
      refine lv_iload hx hb (dd_of dL_water_0 30 rfl) (lv_at hl 1 rfl) ?_
      refine kr_l (As := [.int (nI k)]) (rest := []) (D := D) (yy := yy) (P0 := pV yy h0 an B B2 F G F2 G2 M) (gc := (gX11_level F G M (nI k)).1) ⟨hx, hb, hml, hown, hts⟩ (qX11_level l hl9 D yy h0 an B B2 F G F2 G2 M H.size (nI k) v1) (congrArg Prod.fst v2) (cwV 1 hts (jgV gw2047 gw989 gw990 gw2 gw991) rfl rfl rfl (by decide +kernel) ⟨Nat.le_of_ble_eq_true rfl, Nat.le_of_ble_eq_true rfl⟩) hV hK hT hS hA (va_recv hK hV (ci := 11) (q0 := 0) rfl rfl) rfl hl.1 rfl (Nat.le_of_ble_eq_true rfl) (dd_of dL_water_0 31 rfl) ⟨(show cells + 9 + 9 + 9 + 9 ≤ 180 by omega), (show slots + 64 + 64 + 64 + 64 ≤ 1280 by omega)⟩ (fun x4 H locs hp hV hS => ?_)
      have ex9 : vm = x4 := (congrArg Prod.snd ((hp : gX11_level F G M (nI k) = (0, x4)).symm.trans v2)).symm
      subst ex9
      refine lv_ldc2 (v := (-1000000)) hx hb hown (jw hts gw2044) (dd_of dL_water_0 32 rfl) ?_
      refine jl_lt (tgt := 67) hx hb (dd_of dL_water_0 33 rfl) (dd_of dL_water_0 34 rfl) (by decide) (fun c1 => absurd c1 v3) (fun c1 => ?_)
      refine lv_iconst (v := 1) hx hb (dd_of dL_water_0 35 rfl) (by decide) ?_
      refine lv_goto (tgt := 68) hx hb (dd_of dL_water_0 36 rfl) (by decide) ?_
      refine lv_istore (lv' := [(4, .int 1), (2, .long ((sW Wv k) + (Wv k))), (5, .int (nI k)), (0, .ref h0), (1, .int (nI nb))]) hx hb (dd_of dL_water_0 38 rfl) hl (by decide) rfl (fun ls hl => ?_)
      refine lv_iinc (v := (nI (k + 1))) (lv' := [(5, .int (nI (k + 1))), (4, .int 1), (2, .long ((sW Wv k) + (Wv k))), (0, .ref h0), (1, .int (nI nb))]) hx hb (dd_of dL_water_0 39 rfl) hl (k := 2) rfl (show nI k + nI 1 = nI (k + 1) by rw [nI_add]) (by decide) rfl (fun ls hl => ?_)
      refine lv_goto (tgt := 8) hx hb (dd_of dL_water_1 0 rfl) (by decide) ?_
      exact ih (k + 1) H locs _ _ ls (by omega) (show cells + 9 + 9 + 9 + 9 ≤ 36 * (k + 1) by omega) (show slots + 64 + 64 + 64 + 64 ≤ 256 * (k + 1) by omega) hV hS (lv_sub hl [0, 1, 2, 3, 4] rfl)
  refine lv_lconst (v := 0) hx hb (dd_of dL_water_0 0 rfl) (by decide) ?_
  refine lv_lstore_n (lv' := [(2, .long 0), (0, .ref h0), (1, .int (nI nb))]) hx hb (dd_of dL_water_0 1 rfl) rfl hl (by decide) rfl (fun ls hl => ?_)
  refine lv_iconst (v := 1) hx hb (dd_of dL_water_0 2 rfl) (by decide) ?_
  refine lv_istore (lv' := [(4, .int 1), (2, .long 0), (0, .ref h0), (1, .int (nI nb))]) hx hb (dd_of dL_water_0 3 rfl) hl (by decide) rfl (fun ls hl => ?_)
  refine lv_iconst (v := 0) hx hb (dd_of dL_water_0 4 rfl) (by decide) ?_
  refine lv_istore (lv' := [(5, .int 0), (4, .int 1), (2, .long 0), (0, .ref h0), (1, .int (nI nb))]) hx hb (dd_of dL_water_0 5 rfl) hl (by decide) rfl (fun ls hl => ?_)
  exact loop nb 0 H locs 0 0 ls (by omega) (by omega) (by omega) hV hS hl
set_option maxHeartbeats 4000000 in
set_option maxRecDepth 100000 in
theorem qL_things (l : Launch) (hl9 : l.stackTraces = false) (D : va_G) (yy : Nat → ClassId) (h0 an : Nat) (B B2 : Nat → Nat) (F : jF) (G : jG) (F2 : jF) (G2 : jG) (M : jF) (sz nd np ka : Nat) (hnd : nd ≤ 8) (hnp : np ≤ 8) (hka : ka ≤ 512) (sv : Int64) (hm : ¬ F 62 0 < 0) (hv : okX11_level F G M 20 ∧ gX11_level F G M 20 = (0, sv)) (hse : okX11_sea F G M (F 0 0) ∧ gX11_sea F G M (F 0 0) = (0, sv)) (hdg : okX11_digest F G M) (hok : okAg (M 82) (M 80 0) ka (M 81 0) F2 G2) (hg : gAg (M 82) ka (M 81 0) F2 G2 = (F, G)) (hdy : ∀ (k : Nat) (M1 : jF), k < nd → (∃ v, okX11_dyke F G M1 (nI k) 2 ∧ gX11_dyke F G M1 (nI k) 2 = (0, v) ∧ ¬ v < 0 ∧ ¬ (10 : Int32) < v) ∧ ∃ v, okX11_dyke F G M1 (nI k) 1 ∧ gX11_dyke F G M1 (nI k) 1 = (0, v) ∧ ¬ v < 0) (hpu : ∀ (k : Nat) (M1 : jF), k < np → (∃ v, okX11_pump F G M1 (nI k) 1 ∧ gX11_pump F G M1 (nI k) 1 = (0, v) ∧ ¬ v < 0) ∧ ∃ v, okX11_pump F G M1 (nI k) 2 ∧ gX11_pump F G M1 (nI k) 2 = (0, v) ∧ ¬ v < 0) (hcr : ∀ (k : Nat) (M1 : jF), k < 3 → (∃ v, okX11_crew F G M1 (nI k) 1 ∧ gX11_crew F G M1 (nI k) 1 = (0, v) ∧ ¬ v < 0) ∧ ∃ v, okX11_crew F G M1 (nI k) 2 ∧ gX11_crew F G M1 (nI k) 2 = (0, v) ∧ ¬ nI nd ≤ v) : Met l yL_things (Cond.code yL_things cL_things 5 (some .boolean) :: wsL_law) rmL_things (va_Pc [.ref h0, .int (nI nd), .int (nI np)] (jZ D yy (pV yy h0 an B B2 F G F2 G2 M) sz)) (va_Qi (fun (r : Int32) (u : Nat → Nat) => r = 1 ∧ ∀ k, k < 100 → u k = B2 k) (fun u t => jB D yy (va_A (pV yy h0 an B B2 F G F2 G2 M) sz) (pV yy h0 an B u F G F G (gAr ka M)) t) (va_A (pV yy h0 an B B2 F G F2 G2 M) sz)) 1000 8000 (va_A (pV yy h0 an B B2 F G F2 G2 M) sz) := by
  refine jM (vs := [.ref h0, .int (nI nd), .int (nI np)]) (own := RL) (by decide +kernel) rfl (Nat.le_of_ble_eq_true rfl) ?_
  intro p e s m args below meth c ls Q hQ hargs S hr hlk hinit hB hl
  obtain ⟨hx, hb, hml, hown, hts⟩ := S
  have hl : lv_has ls 5 [(0, .ref h0), (1, .int (nI nd)), (2, .int (nI np))] := hl
  obtain ⟨⟨⟨hsz, hV, hK, hD0⟩, hT⟩, hN⟩ := hB
  subst hsz
  have hD := hD0.self (sz := s.heap.size)
  generalize hZ : va_A (pV yy h0 an B B2 F G F2 G2 M) s.heap.size = Z at hD hQ hT
  have hA : ∀ q : Nat, s.heap.size ≤ q → Z q := fun q h => by rw [← hZ]; exact Or.inr h
  obtain ⟨H, hH⟩ : ∃ z, z = s.heap := ⟨_, rfl⟩
  obtain ⟨locs, hlocs⟩ : ∃ z : List Loc, z = [] := ⟨_, rfl⟩
  have hS : va_S Z s.heap H locs := by rw [hH, hlocs]; exact va_S.rf
  rw [← hH] at hV
  suffices hgo : W p l e rmL_things s m args below meth c H locs 0 0 Q (F0 m 0 ls []) by rw [hH, hlocs] at hgo; exact hgo
  refine lv_aload_n hx hb (dd_of dL_things_0 0 rfl) rfl (lv_at hl 0 rfl) ?_
  refine kr_i (As := []) (rest := []) (D := D) (yy := yy) (P0 := pV yy h0 an B B2 F G F2 G2 M) (gc := (gX11_money F G M).1) ⟨hx, hb, hml, hown, hts⟩ (qX11_money l hl9 D yy h0 an B B2 F G F2 G2 M H.size  ) (congrArg Prod.fst (rfl : gX11_money F G M = (0, F 62 0))) (cwV 0 hts (jgV gw2023 gw978 gw979 gw2 gw980) rfl rfl rfl (by decide +kernel) ⟨Nat.le_of_ble_eq_true rfl, Nat.le_of_ble_eq_true rfl⟩) hV hK hT hS hA (va_recv hK hV (ci := 11) (q0 := 0) rfl rfl) rfl hl.1 rfl (Nat.le_of_ble_eq_true rfl) (dd_of dL_things_0 1 rfl) ⟨(show 0 + 9 ≤ 1000 by omega), (show 0 + 64 ≤ 8000 by omega)⟩ (fun x1 H locs hp hV hS => ?_)
  have ex9 : (F 62 0) = x1 := (congrArg Prod.snd ((hp : gX11_money F G M = (0, x1)).symm.trans (rfl : gX11_money F G M = (0, F 62 0)))).symm
  subst ex9
  refine lv_if_lt (tgt := 41) hx hb (dd_of dL_things_0 2 rfl) (by decide) (fun c1 => absurd c1 hm) (fun c1 => ?_)
  refine lv_aload_n hx hb (dd_of dL_things_0 3 rfl) rfl (lv_at hl 0 rfl) ?_
  refine lv_bipush (v := 20) hx hb (dd_of dL_things_0 4 rfl) (by decide) ?_
  refine kr_l (As := [.int 20]) (rest := []) (D := D) (yy := yy) (P0 := pV yy h0 an B B2 F G F2 G2 M) (gc := (gX11_level F G M 20).1) ⟨hx, hb, hml, hown, hts⟩ (qX11_level l hl9 D yy h0 an B B2 F G F2 G2 M H.size 20 hv.1) (congrArg Prod.fst hv.2) (cwV 1 hts (jgV gw2047 gw989 gw990 gw2 gw991) rfl rfl rfl (by decide +kernel) ⟨Nat.le_of_ble_eq_true rfl, Nat.le_of_ble_eq_true rfl⟩) hV hK hT hS hA (va_recv hK hV (ci := 11) (q0 := 0) rfl rfl) rfl hl.1 rfl (Nat.le_of_ble_eq_true rfl) (dd_of dL_things_0 5 rfl) ⟨(show 0 + 9 + 9 ≤ 1000 by omega), (show 0 + 64 + 64 ≤ 8000 by omega)⟩ (fun x2 H locs hp hV hS => ?_)
  have ex9 : sv = x2 := (congrArg Prod.snd ((hp : gX11_level F G M 20 = (0, x2)).symm.trans hv.2)).symm
  subst ex9
  refine lv_aload_n hx hb (dd_of dL_things_0 6 rfl) rfl (lv_at hl 0 rfl) ?_
  refine lv_aload_n hx hb (dd_of dL_things_0 7 rfl) rfl (lv_at hl 0 rfl) ?_
  refine kr_i (As := []) (rest := [.ref h0, .long sv]) (D := D) (yy := yy) (P0 := pV yy h0 an B B2 F G F2 G2 M) (gc := (gX11_hour F G M).1) ⟨hx, hb, hml, hown, hts⟩ (qX11_hour l hl9 D yy h0 an B B2 F G F2 G2 M H.size  ) (congrArg Prod.fst (rfl : gX11_hour F G M = (0, F 0 0))) (cwV 0 hts (jgV gw2040 gw970 gw971 gw2 gw972) rfl rfl rfl (by decide +kernel) ⟨Nat.le_of_ble_eq_true rfl, Nat.le_of_ble_eq_true rfl⟩) hV hK hT hS hA (va_recv hK hV (ci := 11) (q0 := 0) rfl rfl) rfl hl.1 rfl (Nat.le_of_ble_eq_true rfl) (dd_of dL_things_0 8 rfl) ⟨(show 0 + 9 + 9 + 9 ≤ 1000 by omega), (show 0 + 64 + 64 + 64 ≤ 8000 by omega)⟩ (fun x3 H locs hp hV hS => ?_)
  have ex9 : (F 0 0) = x3 := (congrArg Prod.snd ((hp : gX11_hour F G M = (0, x3)).symm.trans (rfl : gX11_hour F G M = (0, F 0 0)))).symm
  subst ex9
  refine kr_l (As := [.int (F 0 0)]) (rest := [.long sv]) (D := D) (yy := yy) (P0 := pV yy h0 an B B2 F G F2 G2 M) (gc := (gX11_sea F G M (F 0 0)).1) ⟨hx, hb, hml, hown, hts⟩ (qX11_sea l hl9 D yy h0 an B B2 F G F2 G2 M H.size (F 0 0) hse.1) (congrArg Prod.fst hse.2) (cwV 1 hts (jgV gw2052 gw1094 gw1095 gw2 gw1096) rfl rfl rfl (by decide +kernel) ⟨Nat.le_of_ble_eq_true rfl, Nat.le_of_ble_eq_true rfl⟩) hV hK hT hS hA (va_recv hK hV (ci := 11) (q0 := 0) rfl rfl) rfl hl.1 rfl (Nat.le_of_ble_eq_true rfl) (dd_of dL_things_0 9 rfl) ⟨(show 0 + 9 + 9 + 9 + 9 ≤ 1000 by omega), (show 0 + 64 + 64 + 64 + 64 ≤ 8000 by omega)⟩ (fun x4 H locs hp hV hS => ?_)
  have ex9 : sv = x4 := (congrArg Prod.snd ((hp : gX11_sea F G M (F 0 0) = (0, x4)).symm.trans hse.2)).symm
  subst ex9
  refine jl_ne (tgt := 41) hx hb (dd_of dL_things_0 10 rfl) (dd_of dL_things_0 11 rfl) (by decide) (fun c1 => absurd rfl c1) (fun c1 => ?_)
  refine lv_aload_n hx hb (dd_of dL_things_0 12 rfl) rfl (lv_at hl 0 rfl) ?_
  refine kr_l (As := []) (rest := []) (D := D) (yy := yy) (P0 := pV yy h0 an B B2 F G F2 G2 M) (gc := (gX11_digest F G M).1) ⟨hx, hb, hml, hown, hts⟩ (qX11_digest l hl9 D yy h0 an B B2 F G F2 G2 M H.size  hdg) (congrArg Prod.fst (rfl : gX11_digest F G M = (0, gX5_sumOfAll F G))) (cwV 0 hts (jgV gw2053 gw1222 gw1223 gw2 gw1224) rfl rfl rfl (by decide +kernel) ⟨Nat.le_of_ble_eq_true rfl, Nat.le_of_ble_eq_true rfl⟩) hV hK hT hS hA (va_recv hK hV (ci := 11) (q0 := 0) rfl rfl) rfl hl.1 rfl (Nat.le_of_ble_eq_true rfl) (dd_of dL_things_0 13 rfl) ⟨(show 0 + 9 + 9 + 9 + 9 + 9 ≤ 1000 by omega), (show 0 + 64 + 64 + 64 + 64 + 64 ≤ 8000 by omega)⟩ (fun x5 H locs hp hV hS => ?_)
  have ex9 : (gX5_sumOfAll F G) = x5 := (congrArg Prod.snd ((hp : gX11_digest F G M = (0, x5)).symm.trans (rfl : gX11_digest F G M = (0, gX5_sumOfAll F G)))).symm
  subst ex9
  refine lv_aload_n hx hb (dd_of dL_things_0 14 rfl) rfl (lv_at hl 0 rfl) ?_
  have hm9 : Met l yX11_digestAnew (Cond.code yX11_digestAnew cX11_digestAnew 1 (some .long) :: wsL_law) (rmAg ka) (va_Pc [.ref h0] (jP D yy (pV yy h0 an B B2 F G F2 G2 M) H.size)) (va_Ql (fun r (u : ((Nat → Nat) × jS) × jF) => (r = gX5_sumOfAll u.1.2.1 u.1.2.2 ∧ u.1.2 = gAg (M 82) ka (M 81 0) F2 G2 ∧ u.2 = gAr ka M) ∧ ∀ k, k < 100 → u.1.1 k = B2 k) (fun u t => jB D yy (va_A (pV yy h0 an B B2 F G F2 G2 M) H.size) (pV yy h0 an B u.1.1 F G u.1.2.1 u.1.2.2 u.2) t) (va_A (pV yy h0 an B B2 F G F2 G2 M) H.size)) ka (8 * ka) (va_A (pV yy h0 an B B2 F G F2 G2 M) H.size) := vx_noX (qX11_digestAnew l D yy h0 an B B2 F G F2 G2 M H.size ka hok (by rw [hg]; exact hdg))
  refine kp_l (As := []) (rest := [.long (gX5_sumOfAll F G)]) (D := D) (yy := yy) (P0 := pV yy h0 an B B2 F G F2 G2 M) (w1 := fun u : ((Nat → Nat) × jS) × jF => pV yy h0 an B u.1.1 F G u.1.2.1 u.1.2.2 u.2) ⟨hx, hb, hml, hown, hts⟩ hm9 (cwV 0 hts (jgV gw2054 gw1254 gw1255 gw2 gw1256) rfl rfl rfl (by decide +kernel) ⟨Nat.le_of_ble_eq_true rfl, Nat.le_of_ble_eq_true rfl⟩) hV hK hT hD hS hA (va_recv hK hV (ci := 11) (q0 := 0) rfl rfl) rfl hl.1 rfl (Nat.le_of_ble_eq_true rfl) (dd_of dL_things_0 15 rfl) ⟨(show 0 + 9 + 9 + 9 + 9 + 9 + ka ≤ 1000 by omega), (show 0 + 64 + 64 + 64 + 64 + 64 + 8 * ka ≤ 8000 by omega)⟩ (fun x6 u H locs hp hV hD hS => ?_)
  obtain ⟨⟨B3, F3, G3⟩, M3⟩ := u
  obtain ⟨⟨h5, h7, h8⟩, hB3⟩ := hp
  have h7 : (F3, G3) = (F, G) := h7.trans hg
  have h8 : M3 = gAr ka M := h8
  have h5 : x6 = gX5_sumOfAll F3 G3 := h5
  have hB3 : ∀ k, k < 100 → B3 k = B2 k := hB3
  have e3 : F3 = F := congrArg Prod.fst h7
  have e4 : G3 = G := congrArg Prod.snd h7
  rw [e3, e4] at h5
  have hV : va_P D vwCl (pV yy h0 an B B3 F G F3 G3 M3) H := hV
  have hD : va_D Z (pV yy h0 an B B3 F G F3 G3 M3) := hD
  rw [e3, e4, h8] at hV hD
  obtain ⟨M9, hM9⟩ : ∃ z, z = gAr ka M := ⟨_, rfl⟩
  rw [← hM9] at hV hD
  refine jl_ne (tgt := 41) hx hb (dd_of dL_things_0 16 rfl) (dd_of dL_things_0 17 rfl) (by decide) (fun c1 => absurd h5.symm c1) (fun c1 => ?_)
  refine lv_iconst (v := 1) hx hb (dd_of dL_things_0 18 rfl) (by decide) ?_
  refine lv_goto (tgt := 42) hx hb (dd_of dL_things_0 19 rfl) (by decide) ?_
  refine lv_istore_n (lv' := [(3, .int 1), (0, .ref h0), (1, .int (nI nd)), (2, .int (nI np))]) hx hb (dd_of dL_things_0 21 rfl) rfl hl (by decide) rfl (fun ls hl => ?_)
  refine lv_iconst (v := 0) hx hb (dd_of dL_things_0 22 rfl) (by decide) ?_
  refine lv_istore (lv' := [(4, .int 0), (3, .int 1), (0, .ref h0), (1, .int (nI nd)), (2, .int (nI np))]) hx hb (dd_of dL_things_0 23 rfl) hl (by decide) rfl (fun ls hl => ?_)
  have loop3 : ∀ (d k : Nat) (H : Heap) (locs : List Loc) (cells slots : Nat) (ls : Array Slot), k + d = 3 → cells ≤ 917 + 18 * k → slots ≤ 6976 + 128 * k → va_P D vwCl (pV yy h0 an B B3 F G F G M9) H → va_S Z s.heap H locs → lv_has ls 5 [(4, .int (nI k)), (3, .int 1), (0, .ref h0), (1, .int (nI nd)), (2, .int (nI np))] → W p l e rmL_things s m args below meth c H locs cells slots Q (F0 m 148 ls []) := by
    intro d
    induction d with
    | zero =>
      intro k H locs cells slots ls hd hc hs9 hV hS hl
      have hk : k = 3 := hd
      subst hk
      refine lv_iload hx hb (dd_of dL_things_1 36 rfl) (lv_at hl 0 rfl) ?_
      refine lv_iconst (v := 3) hx hb (dd_of dL_things_1 37 rfl) (by decide) ?_
      refine lv_icmp_ge (tgt := 191) hx hb (dd_of dL_things_1 38 rfl) (by decide) (fun c1 => ?_) (fun c1 => absurd (by decide) c1)
      refine lv_iload_n hx hb (dd_of dL_things_2 18 rfl) rfl (lv_at hl 1 rfl) ?_
      subst hQ
      rw [hM9] at hV hD
      refine W.widen (k := 1000) (n := 8000) (show cells ≤ 1000 by omega) (show slots ≤ 8000 by omega) ?_
      exact W.zret (ty := .boolean) (v := 1) hx hb hr (jb_nz (Or.inr rfl)) (fun t ht hW => ⟨⟨1, B3, rfl, ⟨rfl, hB3⟩, by rw [ht]; exact hV, va_K.moved hW.alike hK, hD⟩, hS.F ht⟩) hS.2.2 (dd_of dL_things_2 19 rfl) hlk
    | succ d ih =>
      intro k H locs cells slots ls hd hc hs9 hV hS hl
      refine lv_iload hx hb (dd_of dL_things_1 36 rfl) (lv_at hl 0 rfl) ?_
      refine lv_iconst (v := 3) hx hb (dd_of dL_things_1 37 rfl) (by decide) ?_
      refine lv_icmp_ge (tgt := 191) hx hb (dd_of dL_things_1 38 rfl) (by decide) (fun c1 => absurd (i32le.mp c1) (by rw [nI_toInt (by omega), show (3 : Int32).toInt = 3 from rfl]; omega)) (fun c1 => ?_)
      refine lv_iload_n hx hb (dd_of dL_things_1 39 rfl) rfl (lv_at hl 1 rfl) ?_
      refine lv_if_eq (tgt := 191) hx hb (dd_of dL_things_2 0 rfl) (by decide) (fun c1 => absurd c1 (by decide)) (fun c1 => ?_)
      refine lv_aload_n hx hb (dd_of dL_things_2 1 rfl) rfl (lv_at hl 2 rfl) ?_
      refine lv_iload hx hb (dd_of dL_things_2 2 rfl) (lv_at hl 0 rfl) ?_
      refine lv_iconst (v := 1) hx hb (dd_of dL_things_2 3 rfl) (by decide) ?_
      obtain ⟨⟨v1, a1, a2, a3⟩, v2, b1, b2, b3⟩ := hcr k M9 (by omega)
      refine kr_i (As := [.int (nI k), .int 1]) (rest := []) (D := D) (yy := yy) (P0 := pV yy h0 an B B3 F G F G M9) (gc := (gX11_crew F G M9 (nI k) 1).1) ⟨hx, hb, hml, hown, hts⟩ (qX11_crew l hl9 D yy h0 an B B3 F G F G M9 H.size (nI k) 1 a1) (congrArg Prod.fst a2) (cwV 2 hts (jgV gw2033 gw1080 gw1081 gw2 gw1082) rfl rfl rfl (by decide +kernel) ⟨Nat.le_of_ble_eq_true rfl, Nat.le_of_ble_eq_true rfl⟩) hV hK hT hS hA (va_recv hK hV (ci := 11) (q0 := 0) rfl rfl) rfl hl.1 rfl (Nat.le_of_ble_eq_true rfl) (dd_of dL_things_2 4 rfl) ⟨(show cells + 9 ≤ 1000 by omega), (show slots + 64 ≤ 8000 by omega)⟩ (fun x1 H locs hp hV hS => ?_)
      have ex9 : v1 = x1 := (congrArg Prod.snd ((hp : gX11_crew F G M9 (nI k) 1 = (0, x1)).symm.trans a2)).symm
      subst ex9
      refine lv_if_lt (tgt := 183) hx hb (dd_of dL_things_2 5 rfl) (by decide) (fun c1 => absurd c1 a3) (fun c1 => ?_)
      refine lv_aload_n hx hb (dd_of dL_things_2 6 rfl) rfl (lv_at hl 2 rfl) ?_
      refine lv_iload hx hb (dd_of dL_things_2 7 rfl) (lv_at hl 0 rfl) ?_
      refine lv_iconst (v := 2) hx hb (dd_of dL_things_2 8 rfl) (by decide) ?_
      refine kr_i (As := [.int (nI k), .int 2]) (rest := []) (D := D) (yy := yy) (P0 := pV yy h0 an B B3 F G F G M9) (gc := (gX11_crew F G M9 (nI k) 2).1) ⟨hx, hb, hml, hown, hts⟩ (qX11_crew l hl9 D yy h0 an B B3 F G F G M9 H.size (nI k) 2 b1) (congrArg Prod.fst b2) (cwV 2 hts (jgV gw2033 gw1080 gw1081 gw2 gw1082) rfl rfl rfl (by decide +kernel) ⟨Nat.le_of_ble_eq_true rfl, Nat.le_of_ble_eq_true rfl⟩) hV hK hT hS hA (va_recv hK hV (ci := 11) (q0 := 0) rfl rfl) rfl hl.1 rfl (Nat.le_of_ble_eq_true rfl) (dd_of dL_things_2 9 rfl) ⟨(show cells + 9 + 9 ≤ 1000 by omega), (show slots + 64 + 64 ≤ 8000 by omega)⟩ (fun x2 H locs hp hV hS => ?_)
      have ex9 : v2 = x2 := (congrArg Prod.snd ((hp : gX11_crew F G M9 (nI k) 2 = (0, x2)).symm.trans b2)).symm
      subst ex9
      refine lv_iload_n hx hb (dd_of dL_things_2 10 rfl) rfl (lv_at hl 3 rfl) ?_
      refine lv_icmp_ge (tgt := 183) hx hb (dd_of dL_things_2 11 rfl) (by decide) (fun c1 => absurd c1 b3) (fun c1 => ?_)
      refine lv_iconst (v := 1) hx hb (dd_of dL_things_2 12 rfl) (by decide) ?_
      refine lv_goto (tgt := 184) hx hb (dd_of dL_things_2 13 rfl) (by decide) ?_
      refine lv_istore_n (lv' := [(3, .int 1), (4, .int (nI k)), (0, .ref h0), (1, .int (nI nd)), (2, .int (nI np))]) hx hb (dd_of dL_things_2 15 rfl) rfl hl (by decide) rfl (fun ls hl => ?_)
      refine lv_iinc (v := (nI (k + 1))) (lv' := [(4, .int (nI (k + 1))), (3, .int 1), (0, .ref h0), (1, .int (nI nd)), (2, .int (nI np))]) hx hb (dd_of dL_things_2 16 rfl) hl (k := 1) rfl (show nI k + nI 1 = nI (k + 1) by rw [nI_add]) (by decide) rfl (fun ls hl => ?_)
      refine lv_goto (tgt := 148) hx hb (dd_of dL_things_2 17 rfl) (by decide) ?_
      exact ih (k + 1) H locs _ _ ls (by omega) (show cells + 9 + 9 ≤ 917 + 18 * (k + 1) by omega) (show slots + 64 + 64 ≤ 6976 + 128 * (k + 1) by omega) hV hS (lv_sub hl [0, 1, 2, 3, 4] rfl)
  have loop2 : ∀ (d k : Nat) (H : Heap) (locs : List Loc) (cells slots : Nat) (ls : Array Slot), k + d = np → cells ≤ 773 + 18 * k → slots ≤ 5952 + 128 * k → va_P D vwCl (pV yy h0 an B B3 F G F G M9) H → va_S Z s.heap H locs → lv_has ls 5 [(4, .int (nI k)), (3, .int 1), (0, .ref h0), (1, .int (nI nd)), (2, .int (nI np))] → W p l e rmL_things s m args below meth c H locs cells slots Q (F0 m 103 ls []) := by
    intro d
    induction d with
    | zero =>
      intro k H locs cells slots ls hd hc hs9 hV hS hl
      have hk : k = np := hd
      subst hk
      refine lv_iload hx hb (dd_of dL_things_1 13 rfl) (lv_at hl 0 rfl) ?_
      refine lv_iload_n hx hb (dd_of dL_things_1 14 rfl) rfl (lv_at hl 4 rfl) ?_
      refine lv_icmp_ge (tgt := 145) hx hb (dd_of dL_things_1 15 rfl) (by decide) (fun c1 => ?_) (fun c1 => absurd (i32le.mpr (Int.le_refl _)) c1)
      refine lv_iconst (v := 0) hx hb (dd_of dL_things_1 34 rfl) (by decide) ?_
      refine lv_istore (lv' := [(4, .int 0), (3, .int 1), (0, .ref h0), (1, .int (nI nd)), (2, .int (nI k))]) hx hb (dd_of dL_things_1 35 rfl) hl (by decide) rfl (fun ls hl => ?_)
      exact loop3 3 0 H locs _ _ ls (by omega) (show cells ≤ 917 + 18 * 0 by omega) (show slots ≤ 6976 + 128 * 0 by omega) hV hS (lv_sub hl [0, 1, 2, 3, 4] rfl)
    | succ d ih =>
      intro k H locs cells slots ls hd hc hs9 hV hS hl
      refine lv_iload hx hb (dd_of dL_things_1 13 rfl) (lv_at hl 0 rfl) ?_
      refine lv_iload_n hx hb (dd_of dL_things_1 14 rfl) rfl (lv_at hl 4 rfl) ?_
      refine lv_icmp_ge (tgt := 145) hx hb (dd_of dL_things_1 15 rfl) (by decide) (fun c1 => absurd (i32le.mp c1) (by rw [nI_toInt (by omega), nI_toInt (by omega)]; omega)) (fun c1 => ?_)
      refine lv_iload_n hx hb (dd_of dL_things_1 16 rfl) rfl (lv_at hl 1 rfl) ?_
      refine lv_if_eq (tgt := 145) hx hb (dd_of dL_things_1 17 rfl) (by decide) (fun c1 => absurd c1 (by decide)) (fun c1 => ?_)
      refine lv_aload_n hx hb (dd_of dL_things_1 18 rfl) rfl (lv_at hl 2 rfl) ?_
      refine lv_iload hx hb (dd_of dL_things_1 19 rfl) (lv_at hl 0 rfl) ?_
      refine lv_iconst (v := 1) hx hb (dd_of dL_things_1 20 rfl) (by decide) ?_
      obtain ⟨⟨v1, a1, a2, a3⟩, v2, b1, b2, b3⟩ := hpu k M9 (by omega)
      refine kr_i (As := [.int (nI k), .int 1]) (rest := []) (D := D) (yy := yy) (P0 := pV yy h0 an B B3 F G F G M9) (gc := (gX11_pump F G M9 (nI k) 1).1) ⟨hx, hb, hml, hown, hts⟩ (qX11_pump l hl9 D yy h0 an B B3 F G F G M9 H.size (nI k) 1 a1) (congrArg Prod.fst a2) (cwV 2 hts (jgV gw2022 gw1052 gw1053 gw2 gw1054) rfl rfl rfl (by decide +kernel) ⟨Nat.le_of_ble_eq_true rfl, Nat.le_of_ble_eq_true rfl⟩) hV hK hT hS hA (va_recv hK hV (ci := 11) (q0 := 0) rfl rfl) rfl hl.1 rfl (Nat.le_of_ble_eq_true rfl) (dd_of dL_things_1 21 rfl) ⟨(show cells + 9 ≤ 1000 by omega), (show slots + 64 ≤ 8000 by omega)⟩ (fun x1 H locs hp hV hS => ?_)
      have ex9 : v1 = x1 := (congrArg Prod.snd ((hp : gX11_pump F G M9 (nI k) 1 = (0, x1)).symm.trans a2)).symm
      subst ex9
      refine lv_if_lt (tgt := 137) hx hb (dd_of dL_things_1 22 rfl) (by decide) (fun c1 => absurd c1 a3) (fun c1 => ?_)
      refine lv_aload_n hx hb (dd_of dL_things_1 23 rfl) rfl (lv_at hl 2 rfl) ?_
      refine lv_iload hx hb (dd_of dL_things_1 24 rfl) (lv_at hl 0 rfl) ?_
      refine lv_iconst (v := 2) hx hb (dd_of dL_things_1 25 rfl) (by decide) ?_
      refine kr_i (As := [.int (nI k), .int 2]) (rest := []) (D := D) (yy := yy) (P0 := pV yy h0 an B B3 F G F G M9) (gc := (gX11_pump F G M9 (nI k) 2).1) ⟨hx, hb, hml, hown, hts⟩ (qX11_pump l hl9 D yy h0 an B B3 F G F G M9 H.size (nI k) 2 b1) (congrArg Prod.fst b2) (cwV 2 hts (jgV gw2022 gw1052 gw1053 gw2 gw1054) rfl rfl rfl (by decide +kernel) ⟨Nat.le_of_ble_eq_true rfl, Nat.le_of_ble_eq_true rfl⟩) hV hK hT hS hA (va_recv hK hV (ci := 11) (q0 := 0) rfl rfl) rfl hl.1 rfl (Nat.le_of_ble_eq_true rfl) (dd_of dL_things_1 26 rfl) ⟨(show cells + 9 + 9 ≤ 1000 by omega), (show slots + 64 + 64 ≤ 8000 by omega)⟩ (fun x2 H locs hp hV hS => ?_)
      have ex9 : v2 = x2 := (congrArg Prod.snd ((hp : gX11_pump F G M9 (nI k) 2 = (0, x2)).symm.trans b2)).symm
      subst ex9
      refine lv_if_lt (tgt := 137) hx hb (dd_of dL_things_1 27 rfl) (by decide) (fun c1 => absurd c1 b3) (fun c1 => ?_)
      refine lv_iconst (v := 1) hx hb (dd_of dL_things_1 28 rfl) (by decide) ?_
      refine lv_goto (tgt := 138) hx hb (dd_of dL_things_1 29 rfl) (by decide) ?_
      refine lv_istore_n (lv' := [(3, .int 1), (4, .int (nI k)), (0, .ref h0), (1, .int (nI nd)), (2, .int (nI np))]) hx hb (dd_of dL_things_1 31 rfl) rfl hl (by decide) rfl (fun ls hl => ?_)
      refine lv_iinc (v := (nI (k + 1))) (lv' := [(4, .int (nI (k + 1))), (3, .int 1), (0, .ref h0), (1, .int (nI nd)), (2, .int (nI np))]) hx hb (dd_of dL_things_1 32 rfl) hl (k := 1) rfl (show nI k + nI 1 = nI (k + 1) by rw [nI_add]) (by decide) rfl (fun ls hl => ?_)
      refine lv_goto (tgt := 103) hx hb (dd_of dL_things_1 33 rfl) (by decide) ?_
      exact ih (k + 1) H locs _ _ ls (by omega) (show cells + 9 + 9 ≤ 773 + 18 * (k + 1) by omega) (show slots + 64 + 64 ≤ 5952 + 128 * (k + 1) by omega) hV hS (lv_sub hl [0, 1, 2, 3, 4] rfl)
  have loop1 : ∀ (d k : Nat) (H : Heap) (locs : List Loc) (cells slots : Nat) (ls : Array Slot), k + d = nd → cells ≤ 557 + 27 * k → slots ≤ 4416 + 192 * k → va_P D vwCl (pV yy h0 an B B3 F G F G M9) H → va_S Z s.heap H locs → lv_has ls 5 [(4, .int (nI k)), (3, .int 1), (0, .ref h0), (1, .int (nI nd)), (2, .int (nI np))] → W p l e rmL_things s m args below meth c H locs cells slots Q (F0 m 46 ls []) := by
    intro d
    induction d with
    | zero =>
      intro k H locs cells slots ls hd hc hs9 hV hS hl
      have hk : k = nd := hd
      subst hk
      refine lv_iload hx hb (dd_of dL_things_0 24 rfl) (lv_at hl 0 rfl) ?_
      refine lv_iload_n hx hb (dd_of dL_things_0 25 rfl) rfl (lv_at hl 3 rfl) ?_
      refine lv_icmp_ge (tgt := 100) hx hb (dd_of dL_things_0 26 rfl) (by decide) (fun c1 => ?_) (fun c1 => absurd (i32le.mpr (Int.le_refl _)) c1)
      refine lv_iconst (v := 0) hx hb (dd_of dL_things_1 11 rfl) (by decide) ?_
      refine lv_istore (lv' := [(4, .int 0), (3, .int 1), (0, .ref h0), (1, .int (nI k)), (2, .int (nI np))]) hx hb (dd_of dL_things_1 12 rfl) hl (by decide) rfl (fun ls hl => ?_)
      exact loop2 np 0 H locs _ _ ls (by omega) (show cells ≤ 773 + 18 * 0 by omega) (show slots ≤ 5952 + 128 * 0 by omega) hV hS (lv_sub hl [0, 1, 2, 3, 4] rfl)
    | succ d ih =>
      intro k H locs cells slots ls hd hc hs9 hV hS hl
      refine lv_iload hx hb (dd_of dL_things_0 24 rfl) (lv_at hl 0 rfl) ?_
      refine lv_iload_n hx hb (dd_of dL_things_0 25 rfl) rfl (lv_at hl 3 rfl) ?_
      refine lv_icmp_ge (tgt := 100) hx hb (dd_of dL_things_0 26 rfl) (by decide) (fun c1 => absurd (i32le.mp c1) (by rw [nI_toInt (by omega), nI_toInt (by omega)]; omega)) (fun c1 => ?_)
      refine lv_iload_n hx hb (dd_of dL_things_0 27 rfl) rfl (lv_at hl 1 rfl) ?_
      refine lv_if_eq (tgt := 100) hx hb (dd_of dL_things_0 28 rfl) (by decide) (fun c1 => absurd c1 (by decide)) (fun c1 => ?_)
      refine lv_aload_n hx hb (dd_of dL_things_0 29 rfl) rfl (lv_at hl 2 rfl) ?_
      refine lv_iload hx hb (dd_of dL_things_0 30 rfl) (lv_at hl 0 rfl) ?_
      refine lv_iconst (v := 2) hx hb (dd_of dL_things_0 31 rfl) (by decide) ?_
      obtain ⟨⟨v1, a1, a2, a3, a4⟩, v2, b1, b2, b3⟩ := hdy k M9 (by omega)
      refine kr_i (As := [.int (nI k), .int 2]) (rest := []) (D := D) (yy := yy) (P0 := pV yy h0 an B B3 F G F G M9) (gc := (gX11_dyke F G M9 (nI k) 2).1) ⟨hx, hb, hml, hown, hts⟩ (qX11_dyke l hl9 D yy h0 an B B3 F G F G M9 H.size (nI k) 2 a1) (congrArg Prod.fst a2) (cwV 2 hts (jgV gw2055 gw1066 gw1067 gw2 gw1068) rfl rfl rfl (by decide +kernel) ⟨Nat.le_of_ble_eq_true rfl, Nat.le_of_ble_eq_true rfl⟩) hV hK hT hS hA (va_recv hK hV (ci := 11) (q0 := 0) rfl rfl) rfl hl.1 rfl (Nat.le_of_ble_eq_true rfl) (dd_of dL_things_0 32 rfl) ⟨(show cells + 9 ≤ 1000 by omega), (show slots + 64 ≤ 8000 by omega)⟩ (fun x1 H locs hp hV hS => ?_)
      have ex9 : v1 = x1 := (congrArg Prod.snd ((hp : gX11_dyke F G M9 (nI k) 2 = (0, x1)).symm.trans a2)).symm
      subst ex9
      refine lv_if_lt (tgt := 92) hx hb (dd_of dL_things_0 33 rfl) (by decide) (fun c1 => absurd c1 a3) (fun c1 => ?_)
      refine lv_aload_n hx hb (dd_of dL_things_0 34 rfl) rfl (lv_at hl 2 rfl) ?_
      refine lv_iload hx hb (dd_of dL_things_0 35 rfl) (lv_at hl 0 rfl) ?_
      refine lv_iconst (v := 2) hx hb (dd_of dL_things_0 36 rfl) (by decide) ?_
      refine kr_i (As := [.int (nI k), .int 2]) (rest := []) (D := D) (yy := yy) (P0 := pV yy h0 an B B3 F G F G M9) (gc := (gX11_dyke F G M9 (nI k) 2).1) ⟨hx, hb, hml, hown, hts⟩ (qX11_dyke l hl9 D yy h0 an B B3 F G F G M9 H.size (nI k) 2 a1) (congrArg Prod.fst a2) (cwV 2 hts (jgV gw2055 gw1066 gw1067 gw2 gw1068) rfl rfl rfl (by decide +kernel) ⟨Nat.le_of_ble_eq_true rfl, Nat.le_of_ble_eq_true rfl⟩) hV hK hT hS hA (va_recv hK hV (ci := 11) (q0 := 0) rfl rfl) rfl hl.1 rfl (Nat.le_of_ble_eq_true rfl) (dd_of dL_things_0 37 rfl) ⟨(show cells + 9 + 9 ≤ 1000 by omega), (show slots + 64 + 64 ≤ 8000 by omega)⟩ (fun x3 H locs hp hV hS => ?_)
      have ex9 : v1 = x3 := (congrArg Prod.snd ((hp : gX11_dyke F G M9 (nI k) 2 = (0, x3)).symm.trans a2)).symm
      subst ex9
      refine lv_bipush (v := 10) hx hb (dd_of dL_things_0 38 rfl) (by decide) ?_
      refine lv_icmp_gt (tgt := 92) hx hb (dd_of dL_things_0 39 rfl) (by decide) (fun c1 => absurd c1 a4) (fun c1 => ?_)
      refine lv_aload_n hx hb (dd_of dL_things_1 0 rfl) rfl (lv_at hl 2 rfl) ?_
      refine lv_iload hx hb (dd_of dL_things_1 1 rfl) (lv_at hl 0 rfl) ?_
      refine lv_iconst (v := 1) hx hb (dd_of dL_things_1 2 rfl) (by decide) ?_
      refine kr_i (As := [.int (nI k), .int 1]) (rest := []) (D := D) (yy := yy) (P0 := pV yy h0 an B B3 F G F G M9) (gc := (gX11_dyke F G M9 (nI k) 1).1) ⟨hx, hb, hml, hown, hts⟩ (qX11_dyke l hl9 D yy h0 an B B3 F G F G M9 H.size (nI k) 1 b1) (congrArg Prod.fst b2) (cwV 2 hts (jgV gw2055 gw1066 gw1067 gw2 gw1068) rfl rfl rfl (by decide +kernel) ⟨Nat.le_of_ble_eq_true rfl, Nat.le_of_ble_eq_true rfl⟩) hV hK hT hS hA (va_recv hK hV (ci := 11) (q0 := 0) rfl rfl) rfl hl.1 rfl (Nat.le_of_ble_eq_true rfl) (dd_of dL_things_1 3 rfl) ⟨(show cells + 9 + 9 + 9 ≤ 1000 by omega), (show slots + 64 + 64 + 64 ≤ 8000 by omega)⟩ (fun x2 H locs hp hV hS => ?_)
      have ex9 : v2 = x2 := (congrArg Prod.snd ((hp : gX11_dyke F G M9 (nI k) 1 = (0, x2)).symm.trans b2)).symm
      subst ex9
      refine lv_if_lt (tgt := 92) hx hb (dd_of dL_things_1 4 rfl) (by decide) (fun c1 => absurd c1 b3) (fun c1 => ?_)
      refine lv_iconst (v := 1) hx hb (dd_of dL_things_1 5 rfl) (by decide) ?_
      refine lv_goto (tgt := 93) hx hb (dd_of dL_things_1 6 rfl) (by decide) ?_
      refine lv_istore_n (lv' := [(3, .int 1), (4, .int (nI k)), (0, .ref h0), (1, .int (nI nd)), (2, .int (nI np))]) hx hb (dd_of dL_things_1 8 rfl) rfl hl (by decide) rfl (fun ls hl => ?_)
      refine lv_iinc (v := (nI (k + 1))) (lv' := [(4, .int (nI (k + 1))), (3, .int 1), (0, .ref h0), (1, .int (nI nd)), (2, .int (nI np))]) hx hb (dd_of dL_things_1 9 rfl) hl (k := 1) rfl (show nI k + nI 1 = nI (k + 1) by rw [nI_add]) (by decide) rfl (fun ls hl => ?_)
      refine lv_goto (tgt := 46) hx hb (dd_of dL_things_1 10 rfl) (by decide) ?_
      exact ih (k + 1) H locs _ _ ls (by omega) (show cells + 9 + 9 + 9 ≤ 557 + 27 * (k + 1) by omega) (show slots + 64 + 64 + 64 ≤ 4416 + 192 * (k + 1) by omega) hV hS (lv_sub hl [0, 1, 2, 3, 4] rfl)
  exact loop1 nd 0 H locs _ _ ls (by omega) (show 0 + 9 + 9 + 9 + 9 + 9 + ka ≤ 557 + 27 * 0 by omega) (show 0 + 64 + 64 + 64 + 64 + 64 + 8 * ka ≤ 4416 + 192 * 0 by omega) hV hS (lv_sub hl [0, 1, 2, 3, 4] rfl)
set_option maxHeartbeats 4000000 in
set_option maxRecDepth 100000 in
theorem qL_shares (l : Launch) (hl9 : l.stackTraces = false) (D : va_G) (yy : Nat → ClassId) (h0 an : Nat) (B B2 : Nat → Nat) (F : jF) (G : jG) (F2 : jF) (G2 : jG) (M : jF) (sz nb : Nat) (cost : Int32) (hnb : nb ≤ 4) (Sh : Nat → Int32) (hsh : ∀ k, k < nb → okX11_share F G M cost (nI k) ∧ gX11_share F G M cost (nI k) = (0, Sh k)) (hs : sI Sh nb = 0 ∨ sI Sh nb = cost) : Met l yL_shares (Cond.code yL_shares cL_shares 5 (some .boolean) :: wsL_law) rmL_shares (va_Pc [.ref h0, .int (nI nb), .int cost] (jZ D yy (pV yy h0 an B B2 F G F2 G2 M) sz)) (va_Qi (fun (r : Int32) (_ : Unit) => r = 1) (fun _ t => jB D yy (va_A (pV yy h0 an B B2 F G F2 G2 M) sz) (pV yy h0 an B B2 F G F2 G2 M) t) (va_A (pV yy h0 an B B2 F G F2 G2 M) sz)) 72 512 (va_A (pV yy h0 an B B2 F G F2 G2 M) sz) := by
  refine jM (vs := [.ref h0, .int (nI nb), .int cost]) (own := RL) (by decide +kernel) rfl (Nat.le_of_ble_eq_true rfl) ?_
  intro p e s m args below meth c ls Q hQ hargs S hr hlk hinit hB hl
  obtain ⟨hx, hb, hml, hown, hts⟩ := S
  have hl : lv_has ls 5 [(0, .ref h0), (1, .int (nI nb)), (2, .int cost)] := hl
  obtain ⟨⟨⟨hsz, hV, hK, hD0⟩, hT⟩, hN⟩ := hB
  subst hsz
  have hD := hD0.self (sz := s.heap.size)
  generalize hZ : va_A (pV yy h0 an B B2 F G F2 G2 M) s.heap.size = Z at hD hQ hT
  have hA : ∀ q : Nat, s.heap.size ≤ q → Z q := fun q h => by rw [← hZ]; exact Or.inr h
  obtain ⟨H, hH⟩ : ∃ z, z = s.heap := ⟨_, rfl⟩
  obtain ⟨locs, hlocs⟩ : ∃ z : List Loc, z = [] := ⟨_, rfl⟩
  have hS : va_S Z s.heap H locs := by rw [hH, hlocs]; exact va_S.rf
  rw [← hH] at hV
  suffices hgo : W p l e rmL_shares s m args below meth c H locs 0 0 Q (F0 m 0 ls []) by rw [hH, hlocs] at hgo; exact hgo
  have loop : ∀ (d k : Nat) (H : Heap) (locs : List Loc) (cells slots : Nat) (ls : Array Slot), k + d = nb → cells ≤ 9 * k → slots ≤ 64 * k → va_P D vwCl (pV yy h0 an B B2 F G F2 G2 M) H → va_S Z s.heap H locs → lv_has ls 5 [(4, .int (nI k)), (3, .int (sI Sh k)), (0, .ref h0), (1, .int (nI nb)), (2, .int cost)] → W p l e rmL_shares s m args below meth c H locs cells slots Q (F0 m 5 ls []) := by
    intro d
    induction d with
    | zero =>
      intro k H locs cells slots ls hd hc hs9 hV hS hl
      have hk : k = nb := hd
      subst hk
      refine lv_iload hx hb (dd_of dL_shares_0 4 rfl) (lv_at hl 0 rfl) ?_
      refine lv_iload_n hx hb (dd_of dL_shares_0 5 rfl) rfl (lv_at hl 3 rfl) ?_
      refine lv_icmp_ge (tgt := 27) hx hb (dd_of dL_shares_0 6 rfl) (by decide) (fun c1 => ?_) (fun c1 => absurd (i32le.mpr (Int.le_refl _)) c1)
      refine lv_iload_n hx hb (dd_of dL_shares_0 16 rfl) rfl (lv_at hl 1 rfl) ?_
      refine lv_if_eq (tgt := 36) hx hb (dd_of dL_shares_0 17 rfl) (by decide) (fun c1 => ?_) (fun c1 => ?_)
      · skip
        refine lv_iconst (v := 1) hx hb (dd_of dL_shares_0 21 rfl) (by decide) ?_
        refine lv_goto (tgt := 41) hx hb (dd_of dL_shares_0 22 rfl) (by decide) ?_
        subst hQ
        refine W.widen (k := 72) (n := 512) (show cells ≤ 72 by omega) (show slots ≤ 512 by omega) ?_
        exact W.zret (ty := .boolean) (v := 1) hx hb hr (jb_nz (Or.inr rfl)) (fun t ht hW => ⟨⟨1, (), rfl, rfl, by rw [ht]; exact hV, va_K.moved hW.alike hK, hD⟩, hS.F ht⟩) hS.2.2 (dd_of dL_shares_0 24 rfl) hlk
      · skip
        refine lv_iload_n hx hb (dd_of dL_shares_0 18 rfl) rfl (lv_at hl 1 rfl) ?_
        refine lv_iload_n hx hb (dd_of dL_shares_0 19 rfl) rfl (lv_at hl 4 rfl) ?_
        refine lv_icmp_ne (tgt := 40) hx hb (dd_of dL_shares_0 20 rfl) (by decide) (fun c2 => absurd (hs.resolve_left c1) c2) (fun c2 => ?_)
        refine lv_iconst (v := 1) hx hb (dd_of dL_shares_0 21 rfl) (by decide) ?_
        refine lv_goto (tgt := 41) hx hb (dd_of dL_shares_0 22 rfl) (by decide) ?_
        subst hQ
        refine W.widen (k := 72) (n := 512) (show cells ≤ 72 by omega) (show slots ≤ 512 by omega) ?_
        exact W.zret (ty := .boolean) (v := 1) hx hb hr (jb_nz (Or.inr rfl)) (fun t ht hW => ⟨⟨1, (), rfl, rfl, by rw [ht]; exact hV, va_K.moved hW.alike hK, hD⟩, hS.F ht⟩) hS.2.2 (dd_of dL_shares_0 24 rfl) hlk
    | succ d ih =>
      intro k H locs cells slots ls hd hc hs9 hV hS hl
      obtain ⟨w1, w2⟩ := hsh k (by omega)
      refine lv_iload hx hb (dd_of dL_shares_0 4 rfl) (lv_at hl 0 rfl) ?_
      refine lv_iload_n hx hb (dd_of dL_shares_0 5 rfl) rfl (lv_at hl 3 rfl) ?_
      refine lv_icmp_ge (tgt := 27) hx hb (dd_of dL_shares_0 6 rfl) (by decide) (fun c1 => absurd (i32le.mp c1) (by rw [nI_toInt (by omega), nI_toInt (by omega)]; omega)) (fun c1 => ?_)
      refine lv_iload_n hx hb (dd_of dL_shares_0 7 rfl) rfl (lv_at hl 1 rfl) ?_
      refine lv_aload_n hx hb (dd_of dL_shares_0 8 rfl) rfl (lv_at hl 2 rfl) ?_
      refine lv_iload_n hx hb (dd_of dL_shares_0 9 rfl) rfl (lv_at hl 4 rfl) ?_
      refine lv_iload hx hb (dd_of dL_shares_0 10 rfl) (lv_at hl 0 rfl) ?_
      refine kr_i (As := [.int cost, .int (nI k)]) (rest := [.int (sI Sh k)]) (D := D) (yy := yy) (P0 := pV yy h0 an B B2 F G F2 G2 M) (gc := (gX11_share F G M cost (nI k)).1) ⟨hx, hb, hml, hown, hts⟩ (qX11_share l hl9 D yy h0 an B B2 F G F2 G2 M H.size cost (nI k) w1) (congrArg Prod.fst w2) (cwV 2 hts (jgV gw2039 gw1170 gw1171 gw2 gw1172) rfl rfl rfl (by decide +kernel) ⟨Nat.le_of_ble_eq_true rfl, Nat.le_of_ble_eq_true rfl⟩) hV hK hT hS hA (va_recv hK hV (ci := 11) (q0 := 0) rfl rfl) rfl hl.1 rfl (Nat.le_of_ble_eq_true rfl) (dd_of dL_shares_0 11 rfl) ⟨(show cells + 9 ≤ 72 by omega), (show slots + 64 ≤ 512 by omega)⟩ (fun x1 H locs hp hV hS => ?_)
      have ex9 : (Sh k) = x1 := (congrArg Prod.snd ((hp : gX11_share F G M cost (nI k) = (0, x1)).symm.trans w2)).symm
      subst ex9
      refine lv_iadd hx hb (dd_of dL_shares_0 12 rfl) ?_
      refine lv_istore_n (lv' := [(3, .int ((sI Sh k) + (Sh k))), (4, .int (nI k)), (0, .ref h0), (1, .int (nI nb)), (2, .int cost)]) hx hb (dd_of dL_shares_0 13 rfl) rfl hl (by decide) rfl (fun ls hl => ?_)
      refine lv_iinc (v := (nI (k + 1))) (lv' := [(4, .int (nI (k + 1))), (3, .int ((sI Sh k) + (Sh k))), (0, .ref h0), (1, .int (nI nb)), (2, .int cost)]) hx hb (dd_of dL_shares_0 14 rfl) hl (k := 1) rfl (show nI k + nI 1 = nI (k + 1) by rw [nI_add]) (by decide) rfl (fun ls hl => ?_)
      refine lv_goto (tgt := 5) hx hb (dd_of dL_shares_0 15 rfl) (by decide) ?_
      exact ih (k + 1) H locs _ _ ls (by omega) (show cells + 9 ≤ 9 * (k + 1) by omega) (show slots + 64 ≤ 64 * (k + 1) by omega) hV hS (lv_sub hl [0, 1, 2, 3, 4] rfl)
  refine lv_iconst (v := 0) hx hb (dd_of dL_shares_0 0 rfl) (by decide) ?_
  refine lv_istore_n (lv' := [(3, .int 0), (0, .ref h0), (1, .int (nI nb)), (2, .int cost)]) hx hb (dd_of dL_shares_0 1 rfl) rfl hl (by decide) rfl (fun ls hl => ?_)
  refine lv_iconst (v := 0) hx hb (dd_of dL_shares_0 2 rfl) (by decide) ?_
  refine lv_istore (lv' := [(4, .int 0), (3, .int 0), (0, .ref h0), (1, .int (nI nb)), (2, .int cost)]) hx hb (dd_of dL_shares_0 3 rfl) hl (by decide) rfl (fun ls hl => ?_)
  exact loop nb 0 H locs 0 0 ls (by omega) (by omega) (by omega) hV hS (lv_sub hl [0, 1, 2, 3, 4] rfl)
