-- cases of the law
set_option maxHeartbeats 4000000 in
set_option maxRecDepth 100000 in
theorem cs_pump {p : Program} {l : Launch} {e : Env} {s : State} {m : MethodId} {args : Array Value} {below : List Frame} {meth : Method} {c : Code} {H : Heap} {locs : List Loc} {cells slots : Nat} {Q : State → Prop} {ls : Array Slot} {c0 : Cond} {D : va_G} {yy : Nat → ClassId} {Z : Nat → Prop} (hl9 : l.stackTraces = false) (oa h0 an sa L : Nat) (i : Int32) (xs : Nat → Int32) (O : Nat → Int64) (A B B2 : Nat → Nat) (F : jF) (G : jG) (F2 : jF) (G2 : jG) (M FM : jF) (GM : jG) (a1 : Int32) (hi1 : vp_in (i + 1) L) (ha1 : xs (Int32.toNatClampNeg (i + 1)) = a1) (a2 : Int32) (hi2 : vp_in (i + 2) L) (ha2 : xs (Int32.toNatClampNeg (i + 2)) = a2) (hok : okX11_pump F G M a1 a2) (hcod : (gX11_pump F G M a1 a2).1 = 0 ∨ (gX11_pump F G M a1 a2).1 = 1 ∨ (gX11_pump F G M a1 a2).1 = 2) (hok12 : okX12_pump FM GM a1 a2) (hth : ∀ (x6 : Int32) (FM1 : jF) (GM1 : jG), (x6, (FM1, GM1)) = (gX12_pump FM GM a1 a2) → gX12_thrown FM1 GM1 = wk 1 2 9 (gX11_pump F G M a1 a2).1) (hval : ∀ x x6 st6, (gX11_pump F G M a1 a2) = (0, x) → (x6, st6) = (gX12_pump FM GM a1 a2) → Int32.toInt64 x = Int32.toInt64 x6) (hx : p.tables.exec = Jvm.exec) (hb : c.code = cL_law) (hml : c.maxLocals = 8) (hown : s.vm.findClass RL = some m.cls) (hts : ∀ w ∈ c0 :: wsL_law, w.before args s = true) (hV : va_P D vwCl (kW yy oa O (pV yy h0 an B B2 F G F2 G2 M) (mW yy A FM GM) sa L xs) H) (hK : va_K D vwCl (jT yy) s) (hT : jTP Z s) (hN : jNc s) (hD : va_D Z (kW yy oa O (pV yy h0 an B B2 F G F2 G2 M) (mW yy A FM GM) sa L xs)) (hS : va_S Z s.heap H locs) (hA : ∀ q, s.heap.size ≤ q → Z q) (hl : lv_has ls 8 [(4, .int i), (3, .ref oa), (2, .ref (A 99)), (1, .ref h0), (0, .ref sa)]) (hf : cells + 9 ≤ rmLaw.cells ∧ slots + 64 ≤ rmLaw.slots)
    (kk : ∀ (x6 : Int32) (FM1 : jF) (GM1 : jG) (O1 : Nat → Int64) (H : Heap) (locs : List Loc) (ls : Array Slot), (x6, (FM1, GM1)) = (gX12_pump FM GM a1 a2) → va_P D vwCl (kW yy oa O1 (pV yy h0 an B B2 F G F2 G2 M) (mW yy A FM1 GM1) sa L xs) H → va_D Z (kW yy oa O1 (pV yy h0 an B B2 F G F2 G2 M) (mW yy A FM1 GM1) sa L xs) → va_S Z s.heap H locs → lv_has ls 8 [(4, .int i), (3, .ref oa), (2, .ref (A 99)), (1, .ref h0), (0, .ref sa)] → W p l e rmLaw s m args below meth c H locs (cells + 9) (slots + 64) Q (F0 m 2515 ls [])) : W p l e rmLaw s m args below meth c H locs cells slots Q (F0 m 1983 ls []) := by
  have hX := kW_X hV
  refine lv_aload_n hx hb (dd_of dL_law_30 8 rfl) rfl (lv_at hl 3 rfl) ?_
  refine lv_aload_n hx hb (dd_of dL_law_30 9 rfl) rfl (lv_at hl 4 rfl) ?_
  refine lv_iload hx hb (dd_of dL_law_30 10 rfl) (lv_at hl 0 rfl) ?_
  refine lv_iconst (v := 1) hx hb (dd_of dL_law_30 11 rfl) (by decide) ?_
  refine lv_iadd hx hb (dd_of dL_law_30 12 rfl) ?_
  refine va_iald hx hb hK hX 0 0 rfl rfl hi1 (dd_of dL_law_30 13 rfl) ?_
  rw [ha1]
  refine lv_aload_n hx hb (dd_of dL_law_30 14 rfl) rfl (lv_at hl 4 rfl) ?_
  refine lv_iload hx hb (dd_of dL_law_30 15 rfl) (lv_at hl 0 rfl) ?_
  refine lv_iconst (v := 2) hx hb (dd_of dL_law_30 16 rfl) (by decide) ?_
  refine lv_iadd hx hb (dd_of dL_law_30 17 rfl) ?_
  refine va_iald hx hb hK hX 0 0 rfl rfl hi2 (dd_of dL_law_30 18 rfl) ?_
  rw [ha2]
  refine lv_aload_n hx hb (dd_of dL_law_30 19 rfl) rfl (lv_at hl 1 rfl) ?_
  refine js_i (As := [.ref h0, .int a1, .int a2, .ref oa]) (rest := []) (D := D) (yy := yy) (w := (kW yy oa O (pV yy h0 an B B2 F G F2 G2 M) (mW yy A FM GM) sa L xs)) (w1 := fun u : Nat → Int64 => kW yy oa u (pV yy h0 an B B2 F G F2 G2 M) (mW yy A FM GM) sa L xs) ⟨hx, hb, hml, hown, hts⟩ (qL_pump l hl9 D yy oa h0 an O B B2 F G F2 G2 M (mW yy A FM GM ++ [(sa, .inl (yy 0, L, .inl xs))]) H.size a1 a2 hok hcod) (vx_cwSW 4 hts (jgW gw1048 gw1049 gw173 gw1050) rfl rfl rfl (by decide +kernel) ⟨Nat.le_of_ble_eq_true rfl, Nat.le_of_ble_eq_true rfl⟩) hV hK hT hN hD hS hA rfl hl.1 rfl (Nat.le_of_ble_eq_true rfl) (dd_of dL_law_30 20 rfl) hf (fun x5 u H locs hp hV hD hS => ?_)
  obtain ⟨O1, hO1⟩ : ∃ z, z = u := ⟨_, rfl⟩
  rw [← hO1] at hp hV hD
  have hp : ((∃ x, (gX11_pump F G M a1 a2) = (0, x) ∧ x5 = 0 ∧ O1 = vp_updL O 0 (Int32.toInt64 x)) ∨ ((gX11_pump F G M a1 a2).1 ≠ 0 ∧ x5 = wk 1 2 9 (gX11_pump F G M a1 a2).1 ∧ O1 = O)) := hp
  have hV : va_P D vwCl (kW yy oa O1 (pV yy h0 an B B2 F G F2 G2 M) (mW yy A FM GM) sa L xs) H := hV
  have hD : va_D Z (kW yy oa O1 (pV yy h0 an B B2 F G F2 G2 M) (mW yy A FM GM) sa L xs) := hD
  have hX := kW_X hV
  have hk5 : x5 = wk 1 2 9 (gX11_pump F G M a1 a2).1 := by
    rcases hp with ⟨x, h1, h2, _⟩ | ⟨_, h2, _⟩
    · rw [h2, h1]; rfl
    · exact h2
  refine lv_istore (lv' := [(5, .int x5), (4, .int i), (3, .ref oa), (2, .ref (A 99)), (1, .ref h0), (0, .ref sa)]) hx hb (dd_of dL_law_30 21 rfl) hl (by decide) rfl (fun ls hl => ?_)
  refine lv_aload_n hx hb (dd_of dL_law_30 22 rfl) rfl (lv_at hl 3 rfl) ?_
  refine lv_aload_n hx hb (dd_of dL_law_30 23 rfl) rfl (lv_at hl 5 rfl) ?_
  refine lv_iload hx hb (dd_of dL_law_30 24 rfl) (lv_at hl 1 rfl) ?_
  refine lv_iconst (v := 1) hx hb (dd_of dL_law_30 25 rfl) (by decide) ?_
  refine lv_iadd hx hb (dd_of dL_law_30 26 rfl) ?_
  refine va_iald hx hb hK hX 0 0 rfl rfl hi1 (dd_of dL_law_30 27 rfl) ?_
  rw [ha1]
  refine lv_aload_n hx hb (dd_of dL_law_30 28 rfl) rfl (lv_at hl 5 rfl) ?_
  refine lv_iload hx hb (dd_of dL_law_30 29 rfl) (lv_at hl 1 rfl) ?_
  refine lv_iconst (v := 2) hx hb (dd_of dL_law_30 30 rfl) (by decide) ?_
  refine lv_iadd hx hb (dd_of dL_law_30 31 rfl) ?_
  refine va_iald hx hb hK hX 0 0 rfl rfl hi2 (dd_of dL_law_30 32 rfl) ?_
  rw [ha2]
  refine jt_i (As := [.int a1, .int a2]) (rest := []) (D := D) (yy := yy) (oa := oa) (O := O1) (P := (pV yy h0 an B B2 F G F2 G2 M)) (M := mW yy A FM GM) (w1 := fun u : jS => mW yy A u.1 u.2) ⟨hx, hb, hml, hown, hts⟩ (qX12_pump l D yy A FM GM H.size a1 a2 hok12) (cwV 2 hts (jgV gw1058 gw1059 gw1060 gw5 gw1061) rfl rfl rfl (by decide +kernel) ⟨Nat.le_of_ble_eq_true rfl, Nat.le_of_ble_eq_true rfl⟩) hV hK hD hS hA (va_recv hK (kW_M hV) (ci := 12) (q0 := 0) rfl rfl) rfl hl.1 rfl (Nat.le_of_ble_eq_true rfl) (dd_of dL_law_30 33 rfl) hf (fun x6 u H locs h6 hV hD hS => ?_)
  obtain ⟨FM1, GM1⟩ := u
  have h6 : (x6, (FM1, GM1)) = (gX12_pump FM GM a1 a2) := h6
  have hV : va_P D vwCl (kW yy oa O1 (pV yy h0 an B B2 F G F2 G2 M) (mW yy A FM1 GM1) sa L xs) H := hV
  have hD : va_D Z (kW yy oa O1 (pV yy h0 an B B2 F G F2 G2 M) (mW yy A FM1 GM1) sa L xs) := hD
  refine lv_istore (lv' := [(6, .int x6), (5, .int x5), (4, .int i), (3, .ref oa), (2, .ref (A 99)), (1, .ref h0), (0, .ref sa)]) hx hb (dd_of dL_law_30 34 rfl) hl (by decide) rfl (fun ls hl => ?_)
  refine lv_aload_n hx hb (dd_of dL_law_30 35 rfl) rfl (lv_at hl 4 rfl) ?_
  refine jc_i (As := []) (rest := []) (w := mW yy A FM1 GM1) (D := D) (yy := yy) ⟨hx, hb, hml, hown, hts⟩ (qX12_thrown l D yy A FM1 GM1) (cwV 0 hts (jgV gw594 gw595 gw596 gw5 gw597) rfl rfl rfl (by decide +kernel) ⟨Nat.le_of_ble_eq_true rfl, Nat.le_of_ble_eq_true rfl⟩) (kW_M hV) hK (va_recv hK (kW_M hV) (ci := 12) (q0 := 0) rfl rfl) rfl hl.1 rfl (Nat.le_of_ble_eq_true rfl) (dd_of dL_law_30 36 rfl) hf (fun x7 e7 => ?_)
  refine lv_iload hx hb (dd_of dL_law_30 37 rfl) (lv_at hl 1 rfl) ?_
  refine lv_icmp_eq (tgt := 2031) hx hb (dd_of dL_law_30 38 rfl) (by decide) (fun c7 => ?_) (fun c7 => absurd (e7.trans ((hth _ _ _ h6).trans hk5.symm)) c7)
  refine lv_iload hx hb (dd_of dL_law_31 1 rfl) (lv_at hl 1 rfl) ?_
  refine lv_if_ne (tgt := 2048) hx hb (dd_of dL_law_31 2 rfl) (by decide) (fun c8 => ?_) (fun c8 => ?_)
  · skip
    refine lv_goto (tgt := 2515) hx hb (dd_of dL_law_31 12 rfl) (by decide) ?_
    exact kk x6 FM1 GM1 O1 H locs ls h6 hV hD hS (lv_sub hl [2, 3, 4, 5, 6] rfl)
  · skip
    have hO := kW_O hV
    have h9 : O1 0 = Int32.toInt64 x6 := by
      rcases hp with ⟨x, h1, _, h2⟩ | ⟨h1, h2, _⟩
      · rw [h2]; exact hval _ _ _ h1 h6
      · exfalso; rw [h2] at c8; rcases hcod with hq | hq | hq <;> first | exact h1 hq | (rw [hq] at c8; exact absurd c8 (by decide))
    refine lv_aload_n hx hb (dd_of dL_law_31 3 rfl) rfl (lv_at hl 3 rfl) ?_
    refine lv_iconst (v := 0) hx hb (dd_of dL_law_31 4 rfl) (by decide) ?_
    refine va_lald hx hb hK hO 0 1 rfl rfl (vin_lit (by decide)) (dd_of dL_law_31 5 rfl) ?_
    refine lv_iload hx hb (dd_of dL_law_31 6 rfl) (lv_at hl 0 rfl) ?_
    refine lv_i2l (v := Int32.toInt64 x6) hx hb (dd_of dL_law_31 7 rfl) rfl ?_
    refine jl_eq (tgt := 2048) hx hb (dd_of dL_law_31 8 rfl) (dd_of dL_law_31 9 rfl) (by decide) (fun c10 => ?_) (fun c10 => absurd h9 c10)
    refine lv_goto (tgt := 2515) hx hb (dd_of dL_law_31 12 rfl) (by decide) ?_
    exact kk x6 FM1 GM1 O1 H locs ls h6 hV hD hS (lv_sub hl [2, 3, 4, 5, 6] rfl)
set_option maxHeartbeats 4000000 in
set_option maxRecDepth 100000 in
theorem cs_dyke {p : Program} {l : Launch} {e : Env} {s : State} {m : MethodId} {args : Array Value} {below : List Frame} {meth : Method} {c : Code} {H : Heap} {locs : List Loc} {cells slots : Nat} {Q : State → Prop} {ls : Array Slot} {c0 : Cond} {D : va_G} {yy : Nat → ClassId} {Z : Nat → Prop} (hl9 : l.stackTraces = false) (oa h0 an sa L : Nat) (i : Int32) (xs : Nat → Int32) (O : Nat → Int64) (A B B2 : Nat → Nat) (F : jF) (G : jG) (F2 : jF) (G2 : jG) (M FM : jF) (GM : jG) (a1 : Int32) (hi1 : vp_in (i + 1) L) (ha1 : xs (Int32.toNatClampNeg (i + 1)) = a1) (a2 : Int32) (hi2 : vp_in (i + 2) L) (ha2 : xs (Int32.toNatClampNeg (i + 2)) = a2) (hok : okX11_dyke F G M a1 a2) (hcod : (gX11_dyke F G M a1 a2).1 = 0 ∨ (gX11_dyke F G M a1 a2).1 = 1 ∨ (gX11_dyke F G M a1 a2).1 = 2) (hok12 : okX12_dyke FM GM a1 a2) (hth : ∀ (x6 : Int32) (FM1 : jF) (GM1 : jG), (x6, (FM1, GM1)) = (gX12_dyke FM GM a1 a2) → gX12_thrown FM1 GM1 = wk 1 2 9 (gX11_dyke F G M a1 a2).1) (hval : ∀ x x6 st6, (gX11_dyke F G M a1 a2) = (0, x) → (x6, st6) = (gX12_dyke FM GM a1 a2) → Int32.toInt64 x = Int32.toInt64 x6) (hx : p.tables.exec = Jvm.exec) (hb : c.code = cL_law) (hml : c.maxLocals = 8) (hown : s.vm.findClass RL = some m.cls) (hts : ∀ w ∈ c0 :: wsL_law, w.before args s = true) (hV : va_P D vwCl (kW yy oa O (pV yy h0 an B B2 F G F2 G2 M) (mW yy A FM GM) sa L xs) H) (hK : va_K D vwCl (jT yy) s) (hT : jTP Z s) (hN : jNc s) (hD : va_D Z (kW yy oa O (pV yy h0 an B B2 F G F2 G2 M) (mW yy A FM GM) sa L xs)) (hS : va_S Z s.heap H locs) (hA : ∀ q, s.heap.size ≤ q → Z q) (hl : lv_has ls 8 [(4, .int i), (3, .ref oa), (2, .ref (A 99)), (1, .ref h0), (0, .ref sa)]) (hf : cells + 9 ≤ rmLaw.cells ∧ slots + 64 ≤ rmLaw.slots)
    (kk : ∀ (x6 : Int32) (FM1 : jF) (GM1 : jG) (O1 : Nat → Int64) (H : Heap) (locs : List Loc) (ls : Array Slot), (x6, (FM1, GM1)) = (gX12_dyke FM GM a1 a2) → va_P D vwCl (kW yy oa O1 (pV yy h0 an B B2 F G F2 G2 M) (mW yy A FM1 GM1) sa L xs) H → va_D Z (kW yy oa O1 (pV yy h0 an B B2 F G F2 G2 M) (mW yy A FM1 GM1) sa L xs) → va_S Z s.heap H locs → lv_has ls 8 [(4, .int i), (3, .ref oa), (2, .ref (A 99)), (1, .ref h0), (0, .ref sa)] → W p l e rmLaw s m args below meth c H locs (cells + 9) (slots + 64) Q (F0 m 2515 ls [])) : W p l e rmLaw s m args below meth c H locs cells slots Q (F0 m 2051 ls []) := by
  have hX := kW_X hV
  refine lv_aload_n hx hb (dd_of dL_law_31 13 rfl) rfl (lv_at hl 3 rfl) ?_
  refine lv_aload_n hx hb (dd_of dL_law_31 14 rfl) rfl (lv_at hl 4 rfl) ?_
  refine lv_iload hx hb (dd_of dL_law_31 15 rfl) (lv_at hl 0 rfl) ?_
  refine lv_iconst (v := 1) hx hb (dd_of dL_law_31 16 rfl) (by decide) ?_
  refine lv_iadd hx hb (dd_of dL_law_31 17 rfl) ?_
  refine va_iald hx hb hK hX 0 0 rfl rfl hi1 (dd_of dL_law_31 18 rfl) ?_
  rw [ha1]
  refine lv_aload_n hx hb (dd_of dL_law_31 19 rfl) rfl (lv_at hl 4 rfl) ?_
  refine lv_iload hx hb (dd_of dL_law_31 20 rfl) (lv_at hl 0 rfl) ?_
  refine lv_iconst (v := 2) hx hb (dd_of dL_law_31 21 rfl) (by decide) ?_
  refine lv_iadd hx hb (dd_of dL_law_31 22 rfl) ?_
  refine va_iald hx hb hK hX 0 0 rfl rfl hi2 (dd_of dL_law_31 23 rfl) ?_
  rw [ha2]
  refine lv_aload_n hx hb (dd_of dL_law_31 24 rfl) rfl (lv_at hl 1 rfl) ?_
  refine js_i (As := [.ref h0, .int a1, .int a2, .ref oa]) (rest := []) (D := D) (yy := yy) (w := (kW yy oa O (pV yy h0 an B B2 F G F2 G2 M) (mW yy A FM GM) sa L xs)) (w1 := fun u : Nat → Int64 => kW yy oa u (pV yy h0 an B B2 F G F2 G2 M) (mW yy A FM GM) sa L xs) ⟨hx, hb, hml, hown, hts⟩ (qL_dyke l hl9 D yy oa h0 an O B B2 F G F2 G2 M (mW yy A FM GM ++ [(sa, .inl (yy 0, L, .inl xs))]) H.size a1 a2 hok hcod) (vx_cwSW 4 hts (jgW gw1062 gw1063 gw173 gw1064) rfl rfl rfl (by decide +kernel) ⟨Nat.le_of_ble_eq_true rfl, Nat.le_of_ble_eq_true rfl⟩) hV hK hT hN hD hS hA rfl hl.1 rfl (Nat.le_of_ble_eq_true rfl) (dd_of dL_law_31 25 rfl) hf (fun x5 u H locs hp hV hD hS => ?_)
  obtain ⟨O1, hO1⟩ : ∃ z, z = u := ⟨_, rfl⟩
  rw [← hO1] at hp hV hD
  have hp : ((∃ x, (gX11_dyke F G M a1 a2) = (0, x) ∧ x5 = 0 ∧ O1 = vp_updL O 0 (Int32.toInt64 x)) ∨ ((gX11_dyke F G M a1 a2).1 ≠ 0 ∧ x5 = wk 1 2 9 (gX11_dyke F G M a1 a2).1 ∧ O1 = O)) := hp
  have hV : va_P D vwCl (kW yy oa O1 (pV yy h0 an B B2 F G F2 G2 M) (mW yy A FM GM) sa L xs) H := hV
  have hD : va_D Z (kW yy oa O1 (pV yy h0 an B B2 F G F2 G2 M) (mW yy A FM GM) sa L xs) := hD
  have hX := kW_X hV
  have hk5 : x5 = wk 1 2 9 (gX11_dyke F G M a1 a2).1 := by
    rcases hp with ⟨x, h1, h2, _⟩ | ⟨_, h2, _⟩
    · rw [h2, h1]; rfl
    · exact h2
  refine lv_istore (lv' := [(5, .int x5), (4, .int i), (3, .ref oa), (2, .ref (A 99)), (1, .ref h0), (0, .ref sa)]) hx hb (dd_of dL_law_31 26 rfl) hl (by decide) rfl (fun ls hl => ?_)
  refine lv_aload_n hx hb (dd_of dL_law_31 27 rfl) rfl (lv_at hl 3 rfl) ?_
  refine lv_aload_n hx hb (dd_of dL_law_31 28 rfl) rfl (lv_at hl 5 rfl) ?_
  refine lv_iload hx hb (dd_of dL_law_31 29 rfl) (lv_at hl 1 rfl) ?_
  refine lv_iconst (v := 1) hx hb (dd_of dL_law_31 30 rfl) (by decide) ?_
  refine lv_iadd hx hb (dd_of dL_law_31 31 rfl) ?_
  refine va_iald hx hb hK hX 0 0 rfl rfl hi1 (dd_of dL_law_31 32 rfl) ?_
  rw [ha1]
  refine lv_aload_n hx hb (dd_of dL_law_31 33 rfl) rfl (lv_at hl 5 rfl) ?_
  refine lv_iload hx hb (dd_of dL_law_31 34 rfl) (lv_at hl 1 rfl) ?_
  refine lv_iconst (v := 2) hx hb (dd_of dL_law_31 35 rfl) (by decide) ?_
  refine lv_iadd hx hb (dd_of dL_law_31 36 rfl) ?_
  refine va_iald hx hb hK hX 0 0 rfl rfl hi2 (dd_of dL_law_31 37 rfl) ?_
  rw [ha2]
  refine jt_i (As := [.int a1, .int a2]) (rest := []) (D := D) (yy := yy) (oa := oa) (O := O1) (P := (pV yy h0 an B B2 F G F2 G2 M)) (M := mW yy A FM GM) (w1 := fun u : jS => mW yy A u.1 u.2) ⟨hx, hb, hml, hown, hts⟩ (qX12_dyke l D yy A FM GM H.size a1 a2 hok12) (cwV 2 hts (jgV gw1072 gw1073 gw1074 gw5 gw1075) rfl rfl rfl (by decide +kernel) ⟨Nat.le_of_ble_eq_true rfl, Nat.le_of_ble_eq_true rfl⟩) hV hK hD hS hA (va_recv hK (kW_M hV) (ci := 12) (q0 := 0) rfl rfl) rfl hl.1 rfl (Nat.le_of_ble_eq_true rfl) (dd_of dL_law_31 38 rfl) hf (fun x6 u H locs h6 hV hD hS => ?_)
  obtain ⟨FM1, GM1⟩ := u
  have h6 : (x6, (FM1, GM1)) = (gX12_dyke FM GM a1 a2) := h6
  have hV : va_P D vwCl (kW yy oa O1 (pV yy h0 an B B2 F G F2 G2 M) (mW yy A FM1 GM1) sa L xs) H := hV
  have hD : va_D Z (kW yy oa O1 (pV yy h0 an B B2 F G F2 G2 M) (mW yy A FM1 GM1) sa L xs) := hD
  refine lv_istore (lv' := [(6, .int x6), (5, .int x5), (4, .int i), (3, .ref oa), (2, .ref (A 99)), (1, .ref h0), (0, .ref sa)]) hx hb (dd_of dL_law_31 39 rfl) hl (by decide) rfl (fun ls hl => ?_)
  refine lv_aload_n hx hb (dd_of dL_law_32 0 rfl) rfl (lv_at hl 4 rfl) ?_
  refine jc_i (As := []) (rest := []) (w := mW yy A FM1 GM1) (D := D) (yy := yy) ⟨hx, hb, hml, hown, hts⟩ (qX12_thrown l D yy A FM1 GM1) (cwV 0 hts (jgV gw594 gw595 gw596 gw5 gw597) rfl rfl rfl (by decide +kernel) ⟨Nat.le_of_ble_eq_true rfl, Nat.le_of_ble_eq_true rfl⟩) (kW_M hV) hK (va_recv hK (kW_M hV) (ci := 12) (q0 := 0) rfl rfl) rfl hl.1 rfl (Nat.le_of_ble_eq_true rfl) (dd_of dL_law_32 1 rfl) hf (fun x7 e7 => ?_)
  refine lv_iload hx hb (dd_of dL_law_32 2 rfl) (lv_at hl 1 rfl) ?_
  refine lv_icmp_eq (tgt := 2099) hx hb (dd_of dL_law_32 3 rfl) (by decide) (fun c7 => ?_) (fun c7 => absurd (e7.trans ((hth _ _ _ h6).trans hk5.symm)) c7)
  refine lv_iload hx hb (dd_of dL_law_32 6 rfl) (lv_at hl 1 rfl) ?_
  refine lv_if_ne (tgt := 2116) hx hb (dd_of dL_law_32 7 rfl) (by decide) (fun c8 => ?_) (fun c8 => ?_)
  · skip
    refine lv_goto (tgt := 2515) hx hb (dd_of dL_law_32 17 rfl) (by decide) ?_
    exact kk x6 FM1 GM1 O1 H locs ls h6 hV hD hS (lv_sub hl [2, 3, 4, 5, 6] rfl)
  · skip
    have hO := kW_O hV
    have h9 : O1 0 = Int32.toInt64 x6 := by
      rcases hp with ⟨x, h1, _, h2⟩ | ⟨h1, h2, _⟩
      · rw [h2]; exact hval _ _ _ h1 h6
      · exfalso; rw [h2] at c8; rcases hcod with hq | hq | hq <;> first | exact h1 hq | (rw [hq] at c8; exact absurd c8 (by decide))
    refine lv_aload_n hx hb (dd_of dL_law_32 8 rfl) rfl (lv_at hl 3 rfl) ?_
    refine lv_iconst (v := 0) hx hb (dd_of dL_law_32 9 rfl) (by decide) ?_
    refine va_lald hx hb hK hO 0 1 rfl rfl (vin_lit (by decide)) (dd_of dL_law_32 10 rfl) ?_
    refine lv_iload hx hb (dd_of dL_law_32 11 rfl) (lv_at hl 0 rfl) ?_
    refine lv_i2l (v := Int32.toInt64 x6) hx hb (dd_of dL_law_32 12 rfl) rfl ?_
    refine jl_eq (tgt := 2116) hx hb (dd_of dL_law_32 13 rfl) (dd_of dL_law_32 14 rfl) (by decide) (fun c10 => ?_) (fun c10 => absurd h9 c10)
    refine lv_goto (tgt := 2515) hx hb (dd_of dL_law_32 17 rfl) (by decide) ?_
    exact kk x6 FM1 GM1 O1 H locs ls h6 hV hD hS (lv_sub hl [2, 3, 4, 5, 6] rfl)
set_option maxHeartbeats 4000000 in
set_option maxRecDepth 100000 in
theorem cs_crew {p : Program} {l : Launch} {e : Env} {s : State} {m : MethodId} {args : Array Value} {below : List Frame} {meth : Method} {c : Code} {H : Heap} {locs : List Loc} {cells slots : Nat} {Q : State → Prop} {ls : Array Slot} {c0 : Cond} {D : va_G} {yy : Nat → ClassId} {Z : Nat → Prop} (hl9 : l.stackTraces = false) (oa h0 an sa L : Nat) (i : Int32) (xs : Nat → Int32) (O : Nat → Int64) (A B B2 : Nat → Nat) (F : jF) (G : jG) (F2 : jF) (G2 : jG) (M FM : jF) (GM : jG) (a1 : Int32) (hi1 : vp_in (i + 1) L) (ha1 : xs (Int32.toNatClampNeg (i + 1)) = a1) (a2 : Int32) (hi2 : vp_in (i + 2) L) (ha2 : xs (Int32.toNatClampNeg (i + 2)) = a2) (hok : okX11_crew F G M a1 a2) (hcod : (gX11_crew F G M a1 a2).1 = 0 ∨ (gX11_crew F G M a1 a2).1 = 1 ∨ (gX11_crew F G M a1 a2).1 = 2) (hok12 : okX12_crew FM GM a1 a2) (hth : ∀ (x6 : Int32) (FM1 : jF) (GM1 : jG), (x6, (FM1, GM1)) = (gX12_crew FM GM a1 a2) → gX12_thrown FM1 GM1 = wk 1 2 9 (gX11_crew F G M a1 a2).1) (hval : ∀ x x6 st6, (gX11_crew F G M a1 a2) = (0, x) → (x6, st6) = (gX12_crew FM GM a1 a2) → Int32.toInt64 x = Int32.toInt64 x6) (hx : p.tables.exec = Jvm.exec) (hb : c.code = cL_law) (hml : c.maxLocals = 8) (hown : s.vm.findClass RL = some m.cls) (hts : ∀ w ∈ c0 :: wsL_law, w.before args s = true) (hV : va_P D vwCl (kW yy oa O (pV yy h0 an B B2 F G F2 G2 M) (mW yy A FM GM) sa L xs) H) (hK : va_K D vwCl (jT yy) s) (hT : jTP Z s) (hN : jNc s) (hD : va_D Z (kW yy oa O (pV yy h0 an B B2 F G F2 G2 M) (mW yy A FM GM) sa L xs)) (hS : va_S Z s.heap H locs) (hA : ∀ q, s.heap.size ≤ q → Z q) (hl : lv_has ls 8 [(4, .int i), (3, .ref oa), (2, .ref (A 99)), (1, .ref h0), (0, .ref sa)]) (hf : cells + 9 ≤ rmLaw.cells ∧ slots + 64 ≤ rmLaw.slots)
    (kk : ∀ (x6 : Int32) (FM1 : jF) (GM1 : jG) (O1 : Nat → Int64) (H : Heap) (locs : List Loc) (ls : Array Slot), (x6, (FM1, GM1)) = (gX12_crew FM GM a1 a2) → va_P D vwCl (kW yy oa O1 (pV yy h0 an B B2 F G F2 G2 M) (mW yy A FM1 GM1) sa L xs) H → va_D Z (kW yy oa O1 (pV yy h0 an B B2 F G F2 G2 M) (mW yy A FM1 GM1) sa L xs) → va_S Z s.heap H locs → lv_has ls 8 [(4, .int i), (3, .ref oa), (2, .ref (A 99)), (1, .ref h0), (0, .ref sa)] → W p l e rmLaw s m args below meth c H locs (cells + 9) (slots + 64) Q (F0 m 2515 ls [])) : W p l e rmLaw s m args below meth c H locs cells slots Q (F0 m 2119 ls []) := by
  have hX := kW_X hV
  refine lv_aload_n hx hb (dd_of dL_law_32 18 rfl) rfl (lv_at hl 3 rfl) ?_
  refine lv_aload_n hx hb (dd_of dL_law_32 19 rfl) rfl (lv_at hl 4 rfl) ?_
  refine lv_iload hx hb (dd_of dL_law_32 20 rfl) (lv_at hl 0 rfl) ?_
  refine lv_iconst (v := 1) hx hb (dd_of dL_law_32 21 rfl) (by decide) ?_
  refine lv_iadd hx hb (dd_of dL_law_32 22 rfl) ?_
  refine va_iald hx hb hK hX 0 0 rfl rfl hi1 (dd_of dL_law_32 23 rfl) ?_
  rw [ha1]
  refine lv_aload_n hx hb (dd_of dL_law_32 24 rfl) rfl (lv_at hl 4 rfl) ?_
  refine lv_iload hx hb (dd_of dL_law_32 25 rfl) (lv_at hl 0 rfl) ?_
  refine lv_iconst (v := 2) hx hb (dd_of dL_law_32 26 rfl) (by decide) ?_
  refine lv_iadd hx hb (dd_of dL_law_32 27 rfl) ?_
  refine va_iald hx hb hK hX 0 0 rfl rfl hi2 (dd_of dL_law_32 28 rfl) ?_
  rw [ha2]
  refine lv_aload_n hx hb (dd_of dL_law_32 29 rfl) rfl (lv_at hl 1 rfl) ?_
  refine js_i (As := [.ref h0, .int a1, .int a2, .ref oa]) (rest := []) (D := D) (yy := yy) (w := (kW yy oa O (pV yy h0 an B B2 F G F2 G2 M) (mW yy A FM GM) sa L xs)) (w1 := fun u : Nat → Int64 => kW yy oa u (pV yy h0 an B B2 F G F2 G2 M) (mW yy A FM GM) sa L xs) ⟨hx, hb, hml, hown, hts⟩ (qL_crew l hl9 D yy oa h0 an O B B2 F G F2 G2 M (mW yy A FM GM ++ [(sa, .inl (yy 0, L, .inl xs))]) H.size a1 a2 hok hcod) (vx_cwSW 4 hts (jgW gw1076 gw1077 gw173 gw1078) rfl rfl rfl (by decide +kernel) ⟨Nat.le_of_ble_eq_true rfl, Nat.le_of_ble_eq_true rfl⟩) hV hK hT hN hD hS hA rfl hl.1 rfl (Nat.le_of_ble_eq_true rfl) (dd_of dL_law_32 30 rfl) hf (fun x5 u H locs hp hV hD hS => ?_)
  obtain ⟨O1, hO1⟩ : ∃ z, z = u := ⟨_, rfl⟩
  rw [← hO1] at hp hV hD
  have hp : ((∃ x, (gX11_crew F G M a1 a2) = (0, x) ∧ x5 = 0 ∧ O1 = vp_updL O 0 (Int32.toInt64 x)) ∨ ((gX11_crew F G M a1 a2).1 ≠ 0 ∧ x5 = wk 1 2 9 (gX11_crew F G M a1 a2).1 ∧ O1 = O)) := hp
  have hV : va_P D vwCl (kW yy oa O1 (pV yy h0 an B B2 F G F2 G2 M) (mW yy A FM GM) sa L xs) H := hV
  have hD : va_D Z (kW yy oa O1 (pV yy h0 an B B2 F G F2 G2 M) (mW yy A FM GM) sa L xs) := hD
  have hX := kW_X hV
  have hk5 : x5 = wk 1 2 9 (gX11_crew F G M a1 a2).1 := by
    rcases hp with ⟨x, h1, h2, _⟩ | ⟨_, h2, _⟩
    · rw [h2, h1]; rfl
    · exact h2
  refine lv_istore (lv' := [(5, .int x5), (4, .int i), (3, .ref oa), (2, .ref (A 99)), (1, .ref h0), (0, .ref sa)]) hx hb (dd_of dL_law_32 31 rfl) hl (by decide) rfl (fun ls hl => ?_)
  refine lv_aload_n hx hb (dd_of dL_law_32 32 rfl) rfl (lv_at hl 3 rfl) ?_
  refine lv_aload_n hx hb (dd_of dL_law_32 33 rfl) rfl (lv_at hl 5 rfl) ?_
  refine lv_iload hx hb (dd_of dL_law_32 34 rfl) (lv_at hl 1 rfl) ?_
  refine lv_iconst (v := 1) hx hb (dd_of dL_law_32 35 rfl) (by decide) ?_
  refine lv_iadd hx hb (dd_of dL_law_32 36 rfl) ?_
  refine va_iald hx hb hK hX 0 0 rfl rfl hi1 (dd_of dL_law_32 37 rfl) ?_
  rw [ha1]
  refine lv_aload_n hx hb (dd_of dL_law_32 38 rfl) rfl (lv_at hl 5 rfl) ?_
  refine lv_iload hx hb (dd_of dL_law_32 39 rfl) (lv_at hl 1 rfl) ?_
  refine lv_iconst (v := 2) hx hb (dd_of dL_law_33 0 rfl) (by decide) ?_
  refine lv_iadd hx hb (dd_of dL_law_33 1 rfl) ?_
  refine va_iald hx hb hK hX 0 0 rfl rfl hi2 (dd_of dL_law_33 2 rfl) ?_
  rw [ha2]
  refine jt_i (As := [.int a1, .int a2]) (rest := []) (D := D) (yy := yy) (oa := oa) (O := O1) (P := (pV yy h0 an B B2 F G F2 G2 M)) (M := mW yy A FM GM) (w1 := fun u : jS => mW yy A u.1 u.2) ⟨hx, hb, hml, hown, hts⟩ (qX12_crew l D yy A FM GM H.size a1 a2 hok12) (cwV 2 hts (jgV gw1086 gw1087 gw1088 gw5 gw1089) rfl rfl rfl (by decide +kernel) ⟨Nat.le_of_ble_eq_true rfl, Nat.le_of_ble_eq_true rfl⟩) hV hK hD hS hA (va_recv hK (kW_M hV) (ci := 12) (q0 := 0) rfl rfl) rfl hl.1 rfl (Nat.le_of_ble_eq_true rfl) (dd_of dL_law_33 3 rfl) hf (fun x6 u H locs h6 hV hD hS => ?_)
  obtain ⟨FM1, GM1⟩ := u
  have h6 : (x6, (FM1, GM1)) = (gX12_crew FM GM a1 a2) := h6
  have hV : va_P D vwCl (kW yy oa O1 (pV yy h0 an B B2 F G F2 G2 M) (mW yy A FM1 GM1) sa L xs) H := hV
  have hD : va_D Z (kW yy oa O1 (pV yy h0 an B B2 F G F2 G2 M) (mW yy A FM1 GM1) sa L xs) := hD
  refine lv_istore (lv' := [(6, .int x6), (5, .int x5), (4, .int i), (3, .ref oa), (2, .ref (A 99)), (1, .ref h0), (0, .ref sa)]) hx hb (dd_of dL_law_33 4 rfl) hl (by decide) rfl (fun ls hl => ?_)
  refine lv_aload_n hx hb (dd_of dL_law_33 5 rfl) rfl (lv_at hl 4 rfl) ?_
  refine jc_i (As := []) (rest := []) (w := mW yy A FM1 GM1) (D := D) (yy := yy) ⟨hx, hb, hml, hown, hts⟩ (qX12_thrown l D yy A FM1 GM1) (cwV 0 hts (jgV gw594 gw595 gw596 gw5 gw597) rfl rfl rfl (by decide +kernel) ⟨Nat.le_of_ble_eq_true rfl, Nat.le_of_ble_eq_true rfl⟩) (kW_M hV) hK (va_recv hK (kW_M hV) (ci := 12) (q0 := 0) rfl rfl) rfl hl.1 rfl (Nat.le_of_ble_eq_true rfl) (dd_of dL_law_33 6 rfl) hf (fun x7 e7 => ?_)
  refine lv_iload hx hb (dd_of dL_law_33 7 rfl) (lv_at hl 1 rfl) ?_
  refine lv_icmp_eq (tgt := 2167) hx hb (dd_of dL_law_33 8 rfl) (by decide) (fun c7 => ?_) (fun c7 => absurd (e7.trans ((hth _ _ _ h6).trans hk5.symm)) c7)
  refine lv_iload hx hb (dd_of dL_law_33 11 rfl) (lv_at hl 1 rfl) ?_
  refine lv_if_ne (tgt := 2184) hx hb (dd_of dL_law_33 12 rfl) (by decide) (fun c8 => ?_) (fun c8 => ?_)
  · skip
    refine lv_goto (tgt := 2515) hx hb (dd_of dL_law_33 22 rfl) (by decide) ?_
    exact kk x6 FM1 GM1 O1 H locs ls h6 hV hD hS (lv_sub hl [2, 3, 4, 5, 6] rfl)
  · skip
    have hO := kW_O hV
    have h9 : O1 0 = Int32.toInt64 x6 := by
      rcases hp with ⟨x, h1, _, h2⟩ | ⟨h1, h2, _⟩
      · rw [h2]; exact hval _ _ _ h1 h6
      · exfalso; rw [h2] at c8; rcases hcod with hq | hq | hq <;> first | exact h1 hq | (rw [hq] at c8; exact absurd c8 (by decide))
    refine lv_aload_n hx hb (dd_of dL_law_33 13 rfl) rfl (lv_at hl 3 rfl) ?_
    refine lv_iconst (v := 0) hx hb (dd_of dL_law_33 14 rfl) (by decide) ?_
    refine va_lald hx hb hK hO 0 1 rfl rfl (vin_lit (by decide)) (dd_of dL_law_33 15 rfl) ?_
    refine lv_iload hx hb (dd_of dL_law_33 16 rfl) (lv_at hl 0 rfl) ?_
    refine lv_i2l (v := Int32.toInt64 x6) hx hb (dd_of dL_law_33 17 rfl) rfl ?_
    refine jl_eq (tgt := 2184) hx hb (dd_of dL_law_33 18 rfl) (dd_of dL_law_33 19 rfl) (by decide) (fun c10 => ?_) (fun c10 => absurd h9 c10)
    refine lv_goto (tgt := 2515) hx hb (dd_of dL_law_33 22 rfl) (by decide) ?_
    exact kk x6 FM1 GM1 O1 H locs ls h6 hV hD hS (lv_sub hl [2, 3, 4, 5, 6] rfl)
set_option maxHeartbeats 4000000 in
set_option maxRecDepth 100000 in
theorem cs_sea {p : Program} {l : Launch} {e : Env} {s : State} {m : MethodId} {args : Array Value} {below : List Frame} {meth : Method} {c : Code} {H : Heap} {locs : List Loc} {cells slots : Nat} {Q : State → Prop} {ls : Array Slot} {c0 : Cond} {D : va_G} {yy : Nat → ClassId} {Z : Nat → Prop} (hl9 : l.stackTraces = false) (oa h0 an sa L : Nat) (i : Int32) (xs : Nat → Int32) (O : Nat → Int64) (A B B2 : Nat → Nat) (F : jF) (G : jG) (F2 : jF) (G2 : jG) (M FM : jF) (GM : jG) (a1 : Int32) (hi1 : vp_in (i + 1) L) (ha1 : xs (Int32.toNatClampNeg (i + 1)) = a1) (hok : okX11_sea F G M a1) (hcod : (gX11_sea F G M a1).1 = 0 ∨ (gX11_sea F G M a1).1 = 2) (hok12 : okX12_sea FM GM a1) (hth : ∀ (x6 : Int64) (FM1 : jF) (GM1 : jG), (x6, (FM1, GM1)) = (gX12_sea FM GM a1) → gX12_thrown FM1 GM1 = wk 2 9 9 (gX11_sea F G M a1).1) (hval : ∀ x x6 st6, (gX11_sea F G M a1) = (0, x) → (x6, st6) = (gX12_sea FM GM a1) → x = x6) (hx : p.tables.exec = Jvm.exec) (hb : c.code = cL_law) (hml : c.maxLocals = 8) (hown : s.vm.findClass RL = some m.cls) (hts : ∀ w ∈ c0 :: wsL_law, w.before args s = true) (hV : va_P D vwCl (kW yy oa O (pV yy h0 an B B2 F G F2 G2 M) (mW yy A FM GM) sa L xs) H) (hK : va_K D vwCl (jT yy) s) (hT : jTP Z s) (hN : jNc s) (hD : va_D Z (kW yy oa O (pV yy h0 an B B2 F G F2 G2 M) (mW yy A FM GM) sa L xs)) (hS : va_S Z s.heap H locs) (hA : ∀ q, s.heap.size ≤ q → Z q) (hl : lv_has ls 8 [(4, .int i), (3, .ref oa), (2, .ref (A 99)), (1, .ref h0), (0, .ref sa)]) (hf : cells + 9 ≤ rmLaw.cells ∧ slots + 64 ≤ rmLaw.slots)
    (kk : ∀ (x6 : Int64) (FM1 : jF) (GM1 : jG) (O1 : Nat → Int64) (H : Heap) (locs : List Loc) (ls : Array Slot), (x6, (FM1, GM1)) = (gX12_sea FM GM a1) → va_P D vwCl (kW yy oa O1 (pV yy h0 an B B2 F G F2 G2 M) (mW yy A FM1 GM1) sa L xs) H → va_D Z (kW yy oa O1 (pV yy h0 an B B2 F G F2 G2 M) (mW yy A FM1 GM1) sa L xs) → va_S Z s.heap H locs → lv_has ls 8 [(4, .int i), (3, .ref oa), (2, .ref (A 99)), (1, .ref h0), (0, .ref sa)] → W p l e rmLaw s m args below meth c H locs (cells + 9) (slots + 64) Q (F0 m 2515 ls [])) : W p l e rmLaw s m args below meth c H locs cells slots Q (F0 m 2187 ls []) := by
  have hX := kW_X hV
  refine lv_aload_n hx hb (dd_of dL_law_33 23 rfl) rfl (lv_at hl 3 rfl) ?_
  refine lv_aload_n hx hb (dd_of dL_law_33 24 rfl) rfl (lv_at hl 4 rfl) ?_
  refine lv_iload hx hb (dd_of dL_law_33 25 rfl) (lv_at hl 0 rfl) ?_
  refine lv_iconst (v := 1) hx hb (dd_of dL_law_33 26 rfl) (by decide) ?_
  refine lv_iadd hx hb (dd_of dL_law_33 27 rfl) ?_
  refine va_iald hx hb hK hX 0 0 rfl rfl hi1 (dd_of dL_law_33 28 rfl) ?_
  rw [ha1]
  refine lv_aload_n hx hb (dd_of dL_law_33 29 rfl) rfl (lv_at hl 1 rfl) ?_
  refine js_i (As := [.ref h0, .int a1, .ref oa]) (rest := []) (D := D) (yy := yy) (w := (kW yy oa O (pV yy h0 an B B2 F G F2 G2 M) (mW yy A FM GM) sa L xs)) (w1 := fun u : Nat → Int64 => kW yy oa u (pV yy h0 an B B2 F G F2 G2 M) (mW yy A FM GM) sa L xs) ⟨hx, hb, hml, hown, hts⟩ (qL_sea l hl9 D yy oa h0 an O B B2 F G F2 G2 M (mW yy A FM GM ++ [(sa, .inl (yy 0, L, .inl xs))]) H.size a1 hok hcod) (vx_cwSW 3 hts (jgW gw1090 gw1091 gw173 gw1092) rfl rfl rfl (by decide +kernel) ⟨Nat.le_of_ble_eq_true rfl, Nat.le_of_ble_eq_true rfl⟩) hV hK hT hN hD hS hA rfl hl.1 rfl (Nat.le_of_ble_eq_true rfl) (dd_of dL_law_33 30 rfl) hf (fun x5 u H locs hp hV hD hS => ?_)
  obtain ⟨O1, hO1⟩ : ∃ z, z = u := ⟨_, rfl⟩
  rw [← hO1] at hp hV hD
  have hp : ((∃ x, (gX11_sea F G M a1) = (0, x) ∧ x5 = 0 ∧ O1 = vp_updL O 0 (x)) ∨ ((gX11_sea F G M a1).1 ≠ 0 ∧ x5 = wk 2 9 9 (gX11_sea F G M a1).1 ∧ O1 = O)) := hp
  have hV : va_P D vwCl (kW yy oa O1 (pV yy h0 an B B2 F G F2 G2 M) (mW yy A FM GM) sa L xs) H := hV
  have hD : va_D Z (kW yy oa O1 (pV yy h0 an B B2 F G F2 G2 M) (mW yy A FM GM) sa L xs) := hD
  have hX := kW_X hV
  have hk5 : x5 = wk 2 9 9 (gX11_sea F G M a1).1 := by
    rcases hp with ⟨x, h1, h2, _⟩ | ⟨_, h2, _⟩
    · rw [h2, h1]; rfl
    · exact h2
  refine lv_istore (lv' := [(5, .int x5), (4, .int i), (3, .ref oa), (2, .ref (A 99)), (1, .ref h0), (0, .ref sa)]) hx hb (dd_of dL_law_33 31 rfl) hl (by decide) rfl (fun ls hl => ?_)
  refine lv_aload_n hx hb (dd_of dL_law_33 32 rfl) rfl (lv_at hl 3 rfl) ?_
  refine lv_aload_n hx hb (dd_of dL_law_33 33 rfl) rfl (lv_at hl 5 rfl) ?_
  refine lv_iload hx hb (dd_of dL_law_33 34 rfl) (lv_at hl 1 rfl) ?_
  refine lv_iconst (v := 1) hx hb (dd_of dL_law_33 35 rfl) (by decide) ?_
  refine lv_iadd hx hb (dd_of dL_law_33 36 rfl) ?_
  refine va_iald hx hb hK hX 0 0 rfl rfl hi1 (dd_of dL_law_33 37 rfl) ?_
  rw [ha1]
  refine jt_l (As := [.int a1]) (rest := []) (D := D) (yy := yy) (oa := oa) (O := O1) (P := (pV yy h0 an B B2 F G F2 G2 M)) (M := mW yy A FM GM) (w1 := fun u : jS => mW yy A u.1 u.2) ⟨hx, hb, hml, hown, hts⟩ (qX12_sea l D yy A FM GM H.size a1 hok12) (cwV 1 hts (jgV gw1098 gw1099 gw1100 gw5 gw1101) rfl rfl rfl (by decide +kernel) ⟨Nat.le_of_ble_eq_true rfl, Nat.le_of_ble_eq_true rfl⟩) hV hK hD hS hA (va_recv hK (kW_M hV) (ci := 12) (q0 := 0) rfl rfl) rfl hl.1 rfl (Nat.le_of_ble_eq_true rfl) (dd_of dL_law_33 38 rfl) hf (fun x6 u H locs h6 hV hD hS => ?_)
  obtain ⟨FM1, GM1⟩ := u
  have h6 : (x6, (FM1, GM1)) = (gX12_sea FM GM a1) := h6
  have hV : va_P D vwCl (kW yy oa O1 (pV yy h0 an B B2 F G F2 G2 M) (mW yy A FM1 GM1) sa L xs) H := hV
  have hD : va_D Z (kW yy oa O1 (pV yy h0 an B B2 F G F2 G2 M) (mW yy A FM1 GM1) sa L xs) := hD
  refine lv_lstore (lv' := [(6, .long x6), (5, .int x5), (4, .int i), (3, .ref oa), (2, .ref (A 99)), (1, .ref h0), (0, .ref sa)]) hx hb (dd_of dL_law_33 39 rfl) hl (by decide) rfl (fun ls hl => ?_)
  refine lv_aload_n hx hb (dd_of dL_law_34 0 rfl) rfl (lv_at hl 4 rfl) ?_
  refine jc_i (As := []) (rest := []) (w := mW yy A FM1 GM1) (D := D) (yy := yy) ⟨hx, hb, hml, hown, hts⟩ (qX12_thrown l D yy A FM1 GM1) (cwV 0 hts (jgV gw594 gw595 gw596 gw5 gw597) rfl rfl rfl (by decide +kernel) ⟨Nat.le_of_ble_eq_true rfl, Nat.le_of_ble_eq_true rfl⟩) (kW_M hV) hK (va_recv hK (kW_M hV) (ci := 12) (q0 := 0) rfl rfl) rfl hl.1 rfl (Nat.le_of_ble_eq_true rfl) (dd_of dL_law_34 1 rfl) hf (fun x7 e7 => ?_)
  refine lv_iload hx hb (dd_of dL_law_34 2 rfl) (lv_at hl 1 rfl) ?_
  refine lv_icmp_eq (tgt := 2223) hx hb (dd_of dL_law_34 3 rfl) (by decide) (fun c7 => ?_) (fun c7 => absurd (e7.trans ((hth _ _ _ h6).trans hk5.symm)) c7)
  refine lv_iload hx hb (dd_of dL_law_34 6 rfl) (lv_at hl 1 rfl) ?_
  refine lv_if_ne (tgt := 2239) hx hb (dd_of dL_law_34 7 rfl) (by decide) (fun c8 => ?_) (fun c8 => ?_)
  · skip
    refine lv_goto (tgt := 2515) hx hb (dd_of dL_law_34 16 rfl) (by decide) ?_
    exact kk x6 FM1 GM1 O1 H locs ls h6 hV hD hS (lv_sub hl [2, 3, 4, 5, 6] rfl)
  · skip
    have hO := kW_O hV
    have h9 : O1 0 = x6 := by
      rcases hp with ⟨x, h1, _, h2⟩ | ⟨h1, h2, _⟩
      · rw [h2]; exact hval _ _ _ h1 h6
      · exfalso; rw [h2] at c8; rcases hcod with hq | hq <;> first | exact h1 hq | (rw [hq] at c8; exact absurd c8 (by decide))
    refine lv_aload_n hx hb (dd_of dL_law_34 8 rfl) rfl (lv_at hl 3 rfl) ?_
    refine lv_iconst (v := 0) hx hb (dd_of dL_law_34 9 rfl) (by decide) ?_
    refine va_lald hx hb hK hO 0 1 rfl rfl (vin_lit (by decide)) (dd_of dL_law_34 10 rfl) ?_
    refine lv_lload hx hb (dd_of dL_law_34 11 rfl) (lv_at hl 0 rfl) ?_
    refine jl_eq (tgt := 2239) hx hb (dd_of dL_law_34 12 rfl) (dd_of dL_law_34 13 rfl) (by decide) (fun c10 => ?_) (fun c10 => absurd h9 c10)
    refine lv_goto (tgt := 2515) hx hb (dd_of dL_law_34 16 rfl) (by decide) ?_
    exact kk x6 FM1 GM1 O1 H locs ls h6 hV hD hS (lv_sub hl [2, 3, 4, 5, 6] rfl)
set_option maxHeartbeats 4000000 in
set_option maxRecDepth 100000 in
theorem cs_forecast {p : Program} {l : Launch} {e : Env} {s : State} {m : MethodId} {args : Array Value} {below : List Frame} {meth : Method} {c : Code} {H : Heap} {locs : List Loc} {cells slots : Nat} {Q : State → Prop} {ls : Array Slot} {c0 : Cond} {D : va_G} {yy : Nat → ClassId} {Z : Nat → Prop} (hl9 : l.stackTraces = false) (oa h0 an sa L : Nat) (i : Int32) (xs : Nat → Int32) (O : Nat → Int64) (A B B2 : Nat → Nat) (F : jF) (G : jG) (F2 : jF) (G2 : jG) (M FM : jF) (GM : jG) (a1 : Int32) (hi1 : vp_in (i + 1) L) (ha1 : xs (Int32.toNatClampNeg (i + 1)) = a1) (hok : okX11_forecast F G M a1) (hcod : (gX11_forecast F G M a1).1 = 0 ∨ (gX11_forecast F G M a1).1 = 2) (hok12 : okX12_forecast FM GM a1) (hth : ∀ (x6 : Int64) (FM1 : jF) (GM1 : jG), (x6, (FM1, GM1)) = (gX12_forecast FM GM a1) → gX12_thrown FM1 GM1 = wk 2 9 9 (gX11_forecast F G M a1).1) (hval : ∀ x x6 st6, (gX11_forecast F G M a1) = (0, x) → (x6, st6) = (gX12_forecast FM GM a1) → x = x6) (hx : p.tables.exec = Jvm.exec) (hb : c.code = cL_law) (hml : c.maxLocals = 8) (hown : s.vm.findClass RL = some m.cls) (hts : ∀ w ∈ c0 :: wsL_law, w.before args s = true) (hV : va_P D vwCl (kW yy oa O (pV yy h0 an B B2 F G F2 G2 M) (mW yy A FM GM) sa L xs) H) (hK : va_K D vwCl (jT yy) s) (hT : jTP Z s) (hN : jNc s) (hD : va_D Z (kW yy oa O (pV yy h0 an B B2 F G F2 G2 M) (mW yy A FM GM) sa L xs)) (hS : va_S Z s.heap H locs) (hA : ∀ q, s.heap.size ≤ q → Z q) (hl : lv_has ls 8 [(4, .int i), (3, .ref oa), (2, .ref (A 99)), (1, .ref h0), (0, .ref sa)]) (hf : cells + 9 ≤ rmLaw.cells ∧ slots + 64 ≤ rmLaw.slots)
    (kk : ∀ (x6 : Int64) (FM1 : jF) (GM1 : jG) (O1 : Nat → Int64) (H : Heap) (locs : List Loc) (ls : Array Slot), (x6, (FM1, GM1)) = (gX12_forecast FM GM a1) → va_P D vwCl (kW yy oa O1 (pV yy h0 an B B2 F G F2 G2 M) (mW yy A FM1 GM1) sa L xs) H → va_D Z (kW yy oa O1 (pV yy h0 an B B2 F G F2 G2 M) (mW yy A FM1 GM1) sa L xs) → va_S Z s.heap H locs → lv_has ls 8 [(4, .int i), (3, .ref oa), (2, .ref (A 99)), (1, .ref h0), (0, .ref sa)] → W p l e rmLaw s m args below meth c H locs (cells + 9) (slots + 64) Q (F0 m 2515 ls [])) : W p l e rmLaw s m args below meth c H locs cells slots Q (F0 m 2242 ls []) := by
  have hX := kW_X hV
  refine lv_aload_n hx hb (dd_of dL_law_34 17 rfl) rfl (lv_at hl 3 rfl) ?_
  refine lv_aload_n hx hb (dd_of dL_law_34 18 rfl) rfl (lv_at hl 4 rfl) ?_
  refine lv_iload hx hb (dd_of dL_law_34 19 rfl) (lv_at hl 0 rfl) ?_
  refine lv_iconst (v := 1) hx hb (dd_of dL_law_34 20 rfl) (by decide) ?_
  refine lv_iadd hx hb (dd_of dL_law_34 21 rfl) ?_
  refine va_iald hx hb hK hX 0 0 rfl rfl hi1 (dd_of dL_law_34 22 rfl) ?_
  rw [ha1]
  refine lv_aload_n hx hb (dd_of dL_law_34 23 rfl) rfl (lv_at hl 1 rfl) ?_
  refine js_i (As := [.ref h0, .int a1, .ref oa]) (rest := []) (D := D) (yy := yy) (w := (kW yy oa O (pV yy h0 an B B2 F G F2 G2 M) (mW yy A FM GM) sa L xs)) (w1 := fun u : Nat → Int64 => kW yy oa u (pV yy h0 an B B2 F G F2 G2 M) (mW yy A FM GM) sa L xs) ⟨hx, hb, hml, hown, hts⟩ (qL_forecast l hl9 D yy oa h0 an O B B2 F G F2 G2 M (mW yy A FM GM ++ [(sa, .inl (yy 0, L, .inl xs))]) H.size a1 hok hcod) (vx_cwSW 3 hts (jgW gw1102 gw1103 gw173 gw1104) rfl rfl rfl (by decide +kernel) ⟨Nat.le_of_ble_eq_true rfl, Nat.le_of_ble_eq_true rfl⟩) hV hK hT hN hD hS hA rfl hl.1 rfl (Nat.le_of_ble_eq_true rfl) (dd_of dL_law_34 24 rfl) hf (fun x5 u H locs hp hV hD hS => ?_)
  obtain ⟨O1, hO1⟩ : ∃ z, z = u := ⟨_, rfl⟩
  rw [← hO1] at hp hV hD
  have hp : ((∃ x, (gX11_forecast F G M a1) = (0, x) ∧ x5 = 0 ∧ O1 = vp_updL O 0 (x)) ∨ ((gX11_forecast F G M a1).1 ≠ 0 ∧ x5 = wk 2 9 9 (gX11_forecast F G M a1).1 ∧ O1 = O)) := hp
  have hV : va_P D vwCl (kW yy oa O1 (pV yy h0 an B B2 F G F2 G2 M) (mW yy A FM GM) sa L xs) H := hV
  have hD : va_D Z (kW yy oa O1 (pV yy h0 an B B2 F G F2 G2 M) (mW yy A FM GM) sa L xs) := hD
  have hX := kW_X hV
  have hk5 : x5 = wk 2 9 9 (gX11_forecast F G M a1).1 := by
    rcases hp with ⟨x, h1, h2, _⟩ | ⟨_, h2, _⟩
    · rw [h2, h1]; rfl
    · exact h2
  refine lv_istore (lv' := [(5, .int x5), (4, .int i), (3, .ref oa), (2, .ref (A 99)), (1, .ref h0), (0, .ref sa)]) hx hb (dd_of dL_law_34 25 rfl) hl (by decide) rfl (fun ls hl => ?_)
  refine lv_aload_n hx hb (dd_of dL_law_34 26 rfl) rfl (lv_at hl 3 rfl) ?_
  refine lv_aload_n hx hb (dd_of dL_law_34 27 rfl) rfl (lv_at hl 5 rfl) ?_
  refine lv_iload hx hb (dd_of dL_law_34 28 rfl) (lv_at hl 1 rfl) ?_
  refine lv_iconst (v := 1) hx hb (dd_of dL_law_34 29 rfl) (by decide) ?_
  refine lv_iadd hx hb (dd_of dL_law_34 30 rfl) ?_
  refine va_iald hx hb hK hX 0 0 rfl rfl hi1 (dd_of dL_law_34 31 rfl) ?_
  rw [ha1]
  refine jt_l (As := [.int a1]) (rest := []) (D := D) (yy := yy) (oa := oa) (O := O1) (P := (pV yy h0 an B B2 F G F2 G2 M)) (M := mW yy A FM GM) (w1 := fun u : jS => mW yy A u.1 u.2) ⟨hx, hb, hml, hown, hts⟩ (qX12_forecast l D yy A FM GM H.size a1 hok12) (cwV 1 hts (jgV gw1116 gw1117 gw1118 gw5 gw1119) rfl rfl rfl (by decide +kernel) ⟨Nat.le_of_ble_eq_true rfl, Nat.le_of_ble_eq_true rfl⟩) hV hK hD hS hA (va_recv hK (kW_M hV) (ci := 12) (q0 := 0) rfl rfl) rfl hl.1 rfl (Nat.le_of_ble_eq_true rfl) (dd_of dL_law_34 32 rfl) hf (fun x6 u H locs h6 hV hD hS => ?_)
  obtain ⟨FM1, GM1⟩ := u
  have h6 : (x6, (FM1, GM1)) = (gX12_forecast FM GM a1) := h6
  have hV : va_P D vwCl (kW yy oa O1 (pV yy h0 an B B2 F G F2 G2 M) (mW yy A FM1 GM1) sa L xs) H := hV
  have hD : va_D Z (kW yy oa O1 (pV yy h0 an B B2 F G F2 G2 M) (mW yy A FM1 GM1) sa L xs) := hD
  refine lv_lstore (lv' := [(6, .long x6), (5, .int x5), (4, .int i), (3, .ref oa), (2, .ref (A 99)), (1, .ref h0), (0, .ref sa)]) hx hb (dd_of dL_law_34 33 rfl) hl (by decide) rfl (fun ls hl => ?_)
  refine lv_aload_n hx hb (dd_of dL_law_34 34 rfl) rfl (lv_at hl 4 rfl) ?_
  refine jc_i (As := []) (rest := []) (w := mW yy A FM1 GM1) (D := D) (yy := yy) ⟨hx, hb, hml, hown, hts⟩ (qX12_thrown l D yy A FM1 GM1) (cwV 0 hts (jgV gw594 gw595 gw596 gw5 gw597) rfl rfl rfl (by decide +kernel) ⟨Nat.le_of_ble_eq_true rfl, Nat.le_of_ble_eq_true rfl⟩) (kW_M hV) hK (va_recv hK (kW_M hV) (ci := 12) (q0 := 0) rfl rfl) rfl hl.1 rfl (Nat.le_of_ble_eq_true rfl) (dd_of dL_law_34 35 rfl) hf (fun x7 e7 => ?_)
  refine lv_iload hx hb (dd_of dL_law_34 36 rfl) (lv_at hl 1 rfl) ?_
  refine lv_icmp_eq (tgt := 2278) hx hb (dd_of dL_law_34 37 rfl) (by decide) (fun c7 => ?_) (fun c7 => absurd (e7.trans ((hth _ _ _ h6).trans hk5.symm)) c7)
  refine lv_iload hx hb (dd_of dL_law_35 0 rfl) (lv_at hl 1 rfl) ?_
  refine lv_if_ne (tgt := 2294) hx hb (dd_of dL_law_35 1 rfl) (by decide) (fun c8 => ?_) (fun c8 => ?_)
  · skip
    refine lv_goto (tgt := 2515) hx hb (dd_of dL_law_35 10 rfl) (by decide) ?_
    exact kk x6 FM1 GM1 O1 H locs ls h6 hV hD hS (lv_sub hl [2, 3, 4, 5, 6] rfl)
  · skip
    have hO := kW_O hV
    have h9 : O1 0 = x6 := by
      rcases hp with ⟨x, h1, _, h2⟩ | ⟨h1, h2, _⟩
      · rw [h2]; exact hval _ _ _ h1 h6
      · exfalso; rw [h2] at c8; rcases hcod with hq | hq <;> first | exact h1 hq | (rw [hq] at c8; exact absurd c8 (by decide))
    refine lv_aload_n hx hb (dd_of dL_law_35 2 rfl) rfl (lv_at hl 3 rfl) ?_
    refine lv_iconst (v := 0) hx hb (dd_of dL_law_35 3 rfl) (by decide) ?_
    refine va_lald hx hb hK hO 0 1 rfl rfl (vin_lit (by decide)) (dd_of dL_law_35 4 rfl) ?_
    refine lv_lload hx hb (dd_of dL_law_35 5 rfl) (lv_at hl 0 rfl) ?_
    refine jl_eq (tgt := 2294) hx hb (dd_of dL_law_35 6 rfl) (dd_of dL_law_35 7 rfl) (by decide) (fun c10 => ?_) (fun c10 => absurd h9 c10)
    refine lv_goto (tgt := 2515) hx hb (dd_of dL_law_35 10 rfl) (by decide) ?_
    exact kk x6 FM1 GM1 O1 H locs ls h6 hV hD hS (lv_sub hl [2, 3, 4, 5, 6] rfl)
set_option maxHeartbeats 4000000 in
set_option maxRecDepth 100000 in
theorem cs_record {p : Program} {l : Launch} {e : Env} {s : State} {m : MethodId} {args : Array Value} {below : List Frame} {meth : Method} {c : Code} {H : Heap} {locs : List Loc} {cells slots : Nat} {Q : State → Prop} {ls : Array Slot} {c0 : Cond} {D : va_G} {yy : Nat → ClassId} {Z : Nat → Prop} (hl9 : l.stackTraces = false) (oa h0 an sa L : Nat) (i : Int32) (xs : Nat → Int32) (O : Nat → Int64) (A B B2 : Nat → Nat) (F : jF) (G : jG) (F2 : jF) (G2 : jG) (M FM : jF) (GM : jG) (a1 : Int32) (hi1 : vp_in (i + 1) L) (ha1 : xs (Int32.toNatClampNeg (i + 1)) = a1) (hok : okX11_record F G M a1) (hcod : (gX11_record F G M a1).1 = 0 ∨ (gX11_record F G M a1).1 = 1) (hok12 : okX12_record FM GM a1) (hth : ∀ (x6 : Int64) (FM1 : jF) (GM1 : jG), (x6, (FM1, GM1)) = (gX12_record FM GM a1) → gX12_thrown FM1 GM1 = wk 1 9 9 (gX11_record F G M a1).1) (hval : ∀ x x6 st6, (gX11_record F G M a1) = (0, x) → (x6, st6) = (gX12_record FM GM a1) → x = x6) (hx : p.tables.exec = Jvm.exec) (hb : c.code = cL_law) (hml : c.maxLocals = 8) (hown : s.vm.findClass RL = some m.cls) (hts : ∀ w ∈ c0 :: wsL_law, w.before args s = true) (hV : va_P D vwCl (kW yy oa O (pV yy h0 an B B2 F G F2 G2 M) (mW yy A FM GM) sa L xs) H) (hK : va_K D vwCl (jT yy) s) (hT : jTP Z s) (hN : jNc s) (hD : va_D Z (kW yy oa O (pV yy h0 an B B2 F G F2 G2 M) (mW yy A FM GM) sa L xs)) (hS : va_S Z s.heap H locs) (hA : ∀ q, s.heap.size ≤ q → Z q) (hl : lv_has ls 8 [(4, .int i), (3, .ref oa), (2, .ref (A 99)), (1, .ref h0), (0, .ref sa)]) (hf : cells + 9 ≤ rmLaw.cells ∧ slots + 64 ≤ rmLaw.slots)
    (kk : ∀ (x6 : Int64) (FM1 : jF) (GM1 : jG) (O1 : Nat → Int64) (H : Heap) (locs : List Loc) (ls : Array Slot), (x6, (FM1, GM1)) = (gX12_record FM GM a1) → va_P D vwCl (kW yy oa O1 (pV yy h0 an B B2 F G F2 G2 M) (mW yy A FM1 GM1) sa L xs) H → va_D Z (kW yy oa O1 (pV yy h0 an B B2 F G F2 G2 M) (mW yy A FM1 GM1) sa L xs) → va_S Z s.heap H locs → lv_has ls 8 [(4, .int i), (3, .ref oa), (2, .ref (A 99)), (1, .ref h0), (0, .ref sa)] → W p l e rmLaw s m args below meth c H locs (cells + 9) (slots + 64) Q (F0 m 2515 ls [])) : W p l e rmLaw s m args below meth c H locs cells slots Q (F0 m 2297 ls []) := by
  have hX := kW_X hV
  refine lv_aload_n hx hb (dd_of dL_law_35 11 rfl) rfl (lv_at hl 3 rfl) ?_
  refine lv_aload_n hx hb (dd_of dL_law_35 12 rfl) rfl (lv_at hl 4 rfl) ?_
  refine lv_iload hx hb (dd_of dL_law_35 13 rfl) (lv_at hl 0 rfl) ?_
  refine lv_iconst (v := 1) hx hb (dd_of dL_law_35 14 rfl) (by decide) ?_
  refine lv_iadd hx hb (dd_of dL_law_35 15 rfl) ?_
  refine va_iald hx hb hK hX 0 0 rfl rfl hi1 (dd_of dL_law_35 16 rfl) ?_
  rw [ha1]
  refine lv_aload_n hx hb (dd_of dL_law_35 17 rfl) rfl (lv_at hl 1 rfl) ?_
  refine js_i (As := [.ref h0, .int a1, .ref oa]) (rest := []) (D := D) (yy := yy) (w := (kW yy oa O (pV yy h0 an B B2 F G F2 G2 M) (mW yy A FM GM) sa L xs)) (w1 := fun u : Nat → Int64 => kW yy oa u (pV yy h0 an B B2 F G F2 G2 M) (mW yy A FM GM) sa L xs) ⟨hx, hb, hml, hown, hts⟩ (qL_record l hl9 D yy oa h0 an O B B2 F G F2 G2 M (mW yy A FM GM ++ [(sa, .inl (yy 0, L, .inl xs))]) H.size a1 hok hcod) (vx_cwSW 3 hts (jgW gw1121 gw1122 gw173 gw1123) rfl rfl rfl (by decide +kernel) ⟨Nat.le_of_ble_eq_true rfl, Nat.le_of_ble_eq_true rfl⟩) hV hK hT hN hD hS hA rfl hl.1 rfl (Nat.le_of_ble_eq_true rfl) (dd_of dL_law_35 18 rfl) hf (fun x5 u H locs hp hV hD hS => ?_)
  obtain ⟨O1, hO1⟩ : ∃ z, z = u := ⟨_, rfl⟩
  rw [← hO1] at hp hV hD
  have hp : ((∃ x, (gX11_record F G M a1) = (0, x) ∧ x5 = 0 ∧ O1 = vp_updL O 0 (x)) ∨ ((gX11_record F G M a1).1 ≠ 0 ∧ x5 = wk 1 9 9 (gX11_record F G M a1).1 ∧ O1 = O)) := hp
  have hV : va_P D vwCl (kW yy oa O1 (pV yy h0 an B B2 F G F2 G2 M) (mW yy A FM GM) sa L xs) H := hV
  have hD : va_D Z (kW yy oa O1 (pV yy h0 an B B2 F G F2 G2 M) (mW yy A FM GM) sa L xs) := hD
  have hX := kW_X hV
  have hk5 : x5 = wk 1 9 9 (gX11_record F G M a1).1 := by
    rcases hp with ⟨x, h1, h2, _⟩ | ⟨_, h2, _⟩
    · rw [h2, h1]; rfl
    · exact h2
  refine lv_istore (lv' := [(5, .int x5), (4, .int i), (3, .ref oa), (2, .ref (A 99)), (1, .ref h0), (0, .ref sa)]) hx hb (dd_of dL_law_35 19 rfl) hl (by decide) rfl (fun ls hl => ?_)
  refine lv_aload_n hx hb (dd_of dL_law_35 20 rfl) rfl (lv_at hl 3 rfl) ?_
  refine lv_aload_n hx hb (dd_of dL_law_35 21 rfl) rfl (lv_at hl 5 rfl) ?_
  refine lv_iload hx hb (dd_of dL_law_35 22 rfl) (lv_at hl 1 rfl) ?_
  refine lv_iconst (v := 1) hx hb (dd_of dL_law_35 23 rfl) (by decide) ?_
  refine lv_iadd hx hb (dd_of dL_law_35 24 rfl) ?_
  refine va_iald hx hb hK hX 0 0 rfl rfl hi1 (dd_of dL_law_35 25 rfl) ?_
  rw [ha1]
  refine jt_l (As := [.int a1]) (rest := []) (D := D) (yy := yy) (oa := oa) (O := O1) (P := (pV yy h0 an B B2 F G F2 G2 M)) (M := mW yy A FM GM) (w1 := fun u : jS => mW yy A u.1 u.2) ⟨hx, hb, hml, hown, hts⟩ (qX12_record l D yy A FM GM H.size a1 hok12) (cwV 1 hts (jgV gw1132 gw1133 gw1134 gw5 gw1135) rfl rfl rfl (by decide +kernel) ⟨Nat.le_of_ble_eq_true rfl, Nat.le_of_ble_eq_true rfl⟩) hV hK hD hS hA (va_recv hK (kW_M hV) (ci := 12) (q0 := 0) rfl rfl) rfl hl.1 rfl (Nat.le_of_ble_eq_true rfl) (dd_of dL_law_35 26 rfl) hf (fun x6 u H locs h6 hV hD hS => ?_)
  obtain ⟨FM1, GM1⟩ := u
  have h6 : (x6, (FM1, GM1)) = (gX12_record FM GM a1) := h6
  have hV : va_P D vwCl (kW yy oa O1 (pV yy h0 an B B2 F G F2 G2 M) (mW yy A FM1 GM1) sa L xs) H := hV
  have hD : va_D Z (kW yy oa O1 (pV yy h0 an B B2 F G F2 G2 M) (mW yy A FM1 GM1) sa L xs) := hD
  refine lv_lstore (lv' := [(6, .long x6), (5, .int x5), (4, .int i), (3, .ref oa), (2, .ref (A 99)), (1, .ref h0), (0, .ref sa)]) hx hb (dd_of dL_law_35 27 rfl) hl (by decide) rfl (fun ls hl => ?_)
  refine lv_aload_n hx hb (dd_of dL_law_35 28 rfl) rfl (lv_at hl 4 rfl) ?_
  refine jc_i (As := []) (rest := []) (w := mW yy A FM1 GM1) (D := D) (yy := yy) ⟨hx, hb, hml, hown, hts⟩ (qX12_thrown l D yy A FM1 GM1) (cwV 0 hts (jgV gw594 gw595 gw596 gw5 gw597) rfl rfl rfl (by decide +kernel) ⟨Nat.le_of_ble_eq_true rfl, Nat.le_of_ble_eq_true rfl⟩) (kW_M hV) hK (va_recv hK (kW_M hV) (ci := 12) (q0 := 0) rfl rfl) rfl hl.1 rfl (Nat.le_of_ble_eq_true rfl) (dd_of dL_law_35 29 rfl) hf (fun x7 e7 => ?_)
  refine lv_iload hx hb (dd_of dL_law_35 30 rfl) (lv_at hl 1 rfl) ?_
  refine lv_icmp_eq (tgt := 2333) hx hb (dd_of dL_law_35 31 rfl) (by decide) (fun c7 => ?_) (fun c7 => absurd (e7.trans ((hth _ _ _ h6).trans hk5.symm)) c7)
  refine lv_iload hx hb (dd_of dL_law_35 34 rfl) (lv_at hl 1 rfl) ?_
  refine lv_if_ne (tgt := 2349) hx hb (dd_of dL_law_35 35 rfl) (by decide) (fun c8 => ?_) (fun c8 => ?_)
  · skip
    refine lv_goto (tgt := 2515) hx hb (dd_of dL_law_36 4 rfl) (by decide) ?_
    exact kk x6 FM1 GM1 O1 H locs ls h6 hV hD hS (lv_sub hl [2, 3, 4, 5, 6] rfl)
  · skip
    have hO := kW_O hV
    have h9 : O1 0 = x6 := by
      rcases hp with ⟨x, h1, _, h2⟩ | ⟨h1, h2, _⟩
      · rw [h2]; exact hval _ _ _ h1 h6
      · exfalso; rw [h2] at c8; rcases hcod with hq | hq <;> first | exact h1 hq | (rw [hq] at c8; exact absurd c8 (by decide))
    refine lv_aload_n hx hb (dd_of dL_law_35 36 rfl) rfl (lv_at hl 3 rfl) ?_
    refine lv_iconst (v := 0) hx hb (dd_of dL_law_35 37 rfl) (by decide) ?_
    refine va_lald hx hb hK hO 0 1 rfl rfl (vin_lit (by decide)) (dd_of dL_law_35 38 rfl) ?_
    refine lv_lload hx hb (dd_of dL_law_35 39 rfl) (lv_at hl 0 rfl) ?_
    refine jl_eq (tgt := 2349) hx hb (dd_of dL_law_36 0 rfl) (dd_of dL_law_36 1 rfl) (by decide) (fun c10 => ?_) (fun c10 => absurd h9 c10)
    refine lv_goto (tgt := 2515) hx hb (dd_of dL_law_36 4 rfl) (by decide) ?_
    exact kk x6 FM1 GM1 O1 H locs ls h6 hV hD hS (lv_sub hl [2, 3, 4, 5, 6] rfl)
set_option maxHeartbeats 4000000 in
set_option maxRecDepth 100000 in
theorem cs_nextHeight {p : Program} {l : Launch} {e : Env} {s : State} {m : MethodId} {args : Array Value} {below : List Frame} {meth : Method} {c : Code} {H : Heap} {locs : List Loc} {cells slots : Nat} {Q : State → Prop} {ls : Array Slot} {c0 : Cond} {D : va_G} {yy : Nat → ClassId} {Z : Nat → Prop} (hl9 : l.stackTraces = false) (oa h0 an sa L : Nat) (i : Int32) (xs : Nat → Int32) (O : Nat → Int64) (A B B2 : Nat → Nat) (F : jF) (G : jG) (F2 : jF) (G2 : jG) (M FM : jF) (GM : jG) (a1 : Int32) (hi1 : vp_in (i + 1) L) (ha1 : xs (Int32.toNatClampNeg (i + 1)) = a1) (a2 : Int32) (hi2 : vp_in (i + 2) L) (ha2 : xs (Int32.toNatClampNeg (i + 2)) = a2) (hok : okX11_nextHeight F G M a1 a2) (hcod : (gX11_nextHeight F G M a1 a2).1 = 0 ∨ (gX11_nextHeight F G M a1 a2).1 = 2 ∨ (gX11_nextHeight F G M a1 a2).1 = 3) (hok12 : okX12_nextHeight FM GM a1 a2) (hth : ∀ (x6 : Int64) (FM1 : jF) (GM1 : jG), (x6, (FM1, GM1)) = (gX12_nextHeight FM GM a1 a2) → gX12_thrown FM1 GM1 = wk 2 3 9 (gX11_nextHeight F G M a1 a2).1) (hval : ∀ x x6 st6, (gX11_nextHeight F G M a1 a2) = (0, x) → (x6, st6) = (gX12_nextHeight FM GM a1 a2) → x = x6) (hx : p.tables.exec = Jvm.exec) (hb : c.code = cL_law) (hml : c.maxLocals = 8) (hown : s.vm.findClass RL = some m.cls) (hts : ∀ w ∈ c0 :: wsL_law, w.before args s = true) (hV : va_P D vwCl (kW yy oa O (pV yy h0 an B B2 F G F2 G2 M) (mW yy A FM GM) sa L xs) H) (hK : va_K D vwCl (jT yy) s) (hT : jTP Z s) (hN : jNc s) (hD : va_D Z (kW yy oa O (pV yy h0 an B B2 F G F2 G2 M) (mW yy A FM GM) sa L xs)) (hS : va_S Z s.heap H locs) (hA : ∀ q, s.heap.size ≤ q → Z q) (hl : lv_has ls 8 [(4, .int i), (3, .ref oa), (2, .ref (A 99)), (1, .ref h0), (0, .ref sa)]) (hf : cells + 9 ≤ rmLaw.cells ∧ slots + 64 ≤ rmLaw.slots)
    (kk : ∀ (x6 : Int64) (FM1 : jF) (GM1 : jG) (O1 : Nat → Int64) (H : Heap) (locs : List Loc) (ls : Array Slot), (x6, (FM1, GM1)) = (gX12_nextHeight FM GM a1 a2) → va_P D vwCl (kW yy oa O1 (pV yy h0 an B B2 F G F2 G2 M) (mW yy A FM1 GM1) sa L xs) H → va_D Z (kW yy oa O1 (pV yy h0 an B B2 F G F2 G2 M) (mW yy A FM1 GM1) sa L xs) → va_S Z s.heap H locs → lv_has ls 8 [(4, .int i), (3, .ref oa), (2, .ref (A 99)), (1, .ref h0), (0, .ref sa)] → W p l e rmLaw s m args below meth c H locs (cells + 9) (slots + 64) Q (F0 m 2515 ls [])) : W p l e rmLaw s m args below meth c H locs cells slots Q (F0 m 2352 ls []) := by
  have hX := kW_X hV
  refine lv_aload_n hx hb (dd_of dL_law_36 5 rfl) rfl (lv_at hl 3 rfl) ?_
  refine lv_aload_n hx hb (dd_of dL_law_36 6 rfl) rfl (lv_at hl 4 rfl) ?_
  refine lv_iload hx hb (dd_of dL_law_36 7 rfl) (lv_at hl 0 rfl) ?_
  refine lv_iconst (v := 1) hx hb (dd_of dL_law_36 8 rfl) (by decide) ?_
  refine lv_iadd hx hb (dd_of dL_law_36 9 rfl) ?_
  refine va_iald hx hb hK hX 0 0 rfl rfl hi1 (dd_of dL_law_36 10 rfl) ?_
  rw [ha1]
  refine lv_aload_n hx hb (dd_of dL_law_36 11 rfl) rfl (lv_at hl 4 rfl) ?_
  refine lv_iload hx hb (dd_of dL_law_36 12 rfl) (lv_at hl 0 rfl) ?_
  refine lv_iconst (v := 2) hx hb (dd_of dL_law_36 13 rfl) (by decide) ?_
  refine lv_iadd hx hb (dd_of dL_law_36 14 rfl) ?_
  refine va_iald hx hb hK hX 0 0 rfl rfl hi2 (dd_of dL_law_36 15 rfl) ?_
  rw [ha2]
  refine lv_aload_n hx hb (dd_of dL_law_36 16 rfl) rfl (lv_at hl 1 rfl) ?_
  refine js_i (As := [.ref h0, .int a1, .int a2, .ref oa]) (rest := []) (D := D) (yy := yy) (w := (kW yy oa O (pV yy h0 an B B2 F G F2 G2 M) (mW yy A FM GM) sa L xs)) (w1 := fun u : Nat → Int64 => kW yy oa u (pV yy h0 an B B2 F G F2 G2 M) (mW yy A FM GM) sa L xs) ⟨hx, hb, hml, hown, hts⟩ (qL_nextHeight l hl9 D yy oa h0 an O B B2 F G F2 G2 M (mW yy A FM GM ++ [(sa, .inl (yy 0, L, .inl xs))]) H.size a1 a2 hok hcod) (vx_cwSW 4 hts (jgW gw1136 gw1137 gw173 gw1138) rfl rfl rfl (by decide +kernel) ⟨Nat.le_of_ble_eq_true rfl, Nat.le_of_ble_eq_true rfl⟩) hV hK hT hN hD hS hA rfl hl.1 rfl (Nat.le_of_ble_eq_true rfl) (dd_of dL_law_36 17 rfl) hf (fun x5 u H locs hp hV hD hS => ?_)
  obtain ⟨O1, hO1⟩ : ∃ z, z = u := ⟨_, rfl⟩
  rw [← hO1] at hp hV hD
  have hp : ((∃ x, (gX11_nextHeight F G M a1 a2) = (0, x) ∧ x5 = 0 ∧ O1 = vp_updL O 0 (x)) ∨ ((gX11_nextHeight F G M a1 a2).1 ≠ 0 ∧ x5 = wk 2 3 9 (gX11_nextHeight F G M a1 a2).1 ∧ O1 = O)) := hp
  have hV : va_P D vwCl (kW yy oa O1 (pV yy h0 an B B2 F G F2 G2 M) (mW yy A FM GM) sa L xs) H := hV
  have hD : va_D Z (kW yy oa O1 (pV yy h0 an B B2 F G F2 G2 M) (mW yy A FM GM) sa L xs) := hD
  have hX := kW_X hV
  have hk5 : x5 = wk 2 3 9 (gX11_nextHeight F G M a1 a2).1 := by
    rcases hp with ⟨x, h1, h2, _⟩ | ⟨_, h2, _⟩
    · rw [h2, h1]; rfl
    · exact h2
  refine lv_istore (lv' := [(5, .int x5), (4, .int i), (3, .ref oa), (2, .ref (A 99)), (1, .ref h0), (0, .ref sa)]) hx hb (dd_of dL_law_36 18 rfl) hl (by decide) rfl (fun ls hl => ?_)
  refine lv_aload_n hx hb (dd_of dL_law_36 19 rfl) rfl (lv_at hl 3 rfl) ?_
  refine lv_aload_n hx hb (dd_of dL_law_36 20 rfl) rfl (lv_at hl 5 rfl) ?_
  refine lv_iload hx hb (dd_of dL_law_36 21 rfl) (lv_at hl 1 rfl) ?_
  refine lv_iconst (v := 1) hx hb (dd_of dL_law_36 22 rfl) (by decide) ?_
  refine lv_iadd hx hb (dd_of dL_law_36 23 rfl) ?_
  refine va_iald hx hb hK hX 0 0 rfl rfl hi1 (dd_of dL_law_36 24 rfl) ?_
  rw [ha1]
  refine lv_aload_n hx hb (dd_of dL_law_36 25 rfl) rfl (lv_at hl 5 rfl) ?_
  refine lv_iload hx hb (dd_of dL_law_36 26 rfl) (lv_at hl 1 rfl) ?_
  refine lv_iconst (v := 2) hx hb (dd_of dL_law_36 27 rfl) (by decide) ?_
  refine lv_iadd hx hb (dd_of dL_law_36 28 rfl) ?_
  refine va_iald hx hb hK hX 0 0 rfl rfl hi2 (dd_of dL_law_36 29 rfl) ?_
  rw [ha2]
  refine jt_l (As := [.int a1, .int a2]) (rest := []) (D := D) (yy := yy) (oa := oa) (O := O1) (P := (pV yy h0 an B B2 F G F2 G2 M)) (M := mW yy A FM GM) (w1 := fun u : jS => mW yy A u.1 u.2) ⟨hx, hb, hml, hown, hts⟩ (qX12_nextHeight l D yy A FM GM H.size a1 a2 hok12) (cwV 2 hts (jgV gw1159 gw1160 gw1161 gw5 gw1162) rfl rfl rfl (by decide +kernel) ⟨Nat.le_of_ble_eq_true rfl, Nat.le_of_ble_eq_true rfl⟩) hV hK hD hS hA (va_recv hK (kW_M hV) (ci := 12) (q0 := 0) rfl rfl) rfl hl.1 rfl (Nat.le_of_ble_eq_true rfl) (dd_of dL_law_36 30 rfl) hf (fun x6 u H locs h6 hV hD hS => ?_)
  obtain ⟨FM1, GM1⟩ := u
  have h6 : (x6, (FM1, GM1)) = (gX12_nextHeight FM GM a1 a2) := h6
  have hV : va_P D vwCl (kW yy oa O1 (pV yy h0 an B B2 F G F2 G2 M) (mW yy A FM1 GM1) sa L xs) H := hV
  have hD : va_D Z (kW yy oa O1 (pV yy h0 an B B2 F G F2 G2 M) (mW yy A FM1 GM1) sa L xs) := hD
  refine lv_lstore (lv' := [(6, .long x6), (5, .int x5), (4, .int i), (3, .ref oa), (2, .ref (A 99)), (1, .ref h0), (0, .ref sa)]) hx hb (dd_of dL_law_36 31 rfl) hl (by decide) rfl (fun ls hl => ?_)
  refine lv_aload_n hx hb (dd_of dL_law_36 32 rfl) rfl (lv_at hl 4 rfl) ?_
  refine jc_i (As := []) (rest := []) (w := mW yy A FM1 GM1) (D := D) (yy := yy) ⟨hx, hb, hml, hown, hts⟩ (qX12_thrown l D yy A FM1 GM1) (cwV 0 hts (jgV gw594 gw595 gw596 gw5 gw597) rfl rfl rfl (by decide +kernel) ⟨Nat.le_of_ble_eq_true rfl, Nat.le_of_ble_eq_true rfl⟩) (kW_M hV) hK (va_recv hK (kW_M hV) (ci := 12) (q0 := 0) rfl rfl) rfl hl.1 rfl (Nat.le_of_ble_eq_true rfl) (dd_of dL_law_36 33 rfl) hf (fun x7 e7 => ?_)
  refine lv_iload hx hb (dd_of dL_law_36 34 rfl) (lv_at hl 1 rfl) ?_
  refine lv_icmp_eq (tgt := 2400) hx hb (dd_of dL_law_36 35 rfl) (by decide) (fun c7 => ?_) (fun c7 => absurd (e7.trans ((hth _ _ _ h6).trans hk5.symm)) c7)
  refine lv_iload hx hb (dd_of dL_law_36 38 rfl) (lv_at hl 1 rfl) ?_
  refine lv_if_ne (tgt := 2416) hx hb (dd_of dL_law_36 39 rfl) (by decide) (fun c8 => ?_) (fun c8 => ?_)
  · skip
    refine lv_goto (tgt := 2515) hx hb (dd_of dL_law_37 8 rfl) (by decide) ?_
    exact kk x6 FM1 GM1 O1 H locs ls h6 hV hD hS (lv_sub hl [2, 3, 4, 5, 6] rfl)
  · skip
    have hO := kW_O hV
    have h9 : O1 0 = x6 := by
      rcases hp with ⟨x, h1, _, h2⟩ | ⟨h1, h2, _⟩
      · rw [h2]; exact hval _ _ _ h1 h6
      · exfalso; rw [h2] at c8; rcases hcod with hq | hq | hq <;> first | exact h1 hq | (rw [hq] at c8; exact absurd c8 (by decide))
    refine lv_aload_n hx hb (dd_of dL_law_37 0 rfl) rfl (lv_at hl 3 rfl) ?_
    refine lv_iconst (v := 0) hx hb (dd_of dL_law_37 1 rfl) (by decide) ?_
    refine va_lald hx hb hK hO 0 1 rfl rfl (vin_lit (by decide)) (dd_of dL_law_37 2 rfl) ?_
    refine lv_lload hx hb (dd_of dL_law_37 3 rfl) (lv_at hl 0 rfl) ?_
    refine jl_eq (tgt := 2416) hx hb (dd_of dL_law_37 4 rfl) (dd_of dL_law_37 5 rfl) (by decide) (fun c10 => ?_) (fun c10 => absurd h9 c10)
    refine lv_goto (tgt := 2515) hx hb (dd_of dL_law_37 8 rfl) (by decide) ?_
    exact kk x6 FM1 GM1 O1 H locs ls h6 hV hD hS (lv_sub hl [2, 3, 4, 5, 6] rfl)
set_option maxHeartbeats 4000000 in
set_option maxRecDepth 100000 in
theorem cs_share {p : Program} {l : Launch} {e : Env} {s : State} {m : MethodId} {args : Array Value} {below : List Frame} {meth : Method} {c : Code} {H : Heap} {locs : List Loc} {cells slots : Nat} {Q : State → Prop} {ls : Array Slot} {c0 : Cond} {D : va_G} {yy : Nat → ClassId} {Z : Nat → Prop} (hl9 : l.stackTraces = false) (oa h0 an sa L : Nat) (i : Int32) (xs : Nat → Int32) (O : Nat → Int64) (A B B2 : Nat → Nat) (F : jF) (G : jG) (F2 : jF) (G2 : jG) (M FM : jF) (GM : jG) (a1 : Int32) (hi1 : vp_in (i + 1) L) (ha1 : xs (Int32.toNatClampNeg (i + 1)) = a1) (a2 : Int32) (hi2 : vp_in (i + 2) L) (ha2 : xs (Int32.toNatClampNeg (i + 2)) = a2) (hok : okX11_share F G M a1 a2) (hcod : (gX11_share F G M a1 a2).1 = 0 ∨ (gX11_share F G M a1 a2).1 = 1 ∨ (gX11_share F G M a1 a2).1 = 2) (hok12 : okX12_share FM GM a1 a2) (hth : ∀ (x6 : Int32) (FM1 : jF) (GM1 : jG), (x6, (FM1, GM1)) = (gX12_share FM GM a1 a2) → gX12_thrown FM1 GM1 = wk 1 2 9 (gX11_share F G M a1 a2).1) (hval : ∀ x x6 st6, (gX11_share F G M a1 a2) = (0, x) → (x6, st6) = (gX12_share FM GM a1 a2) → Int32.toInt64 x = Int32.toInt64 x6) (hx : p.tables.exec = Jvm.exec) (hb : c.code = cL_law) (hml : c.maxLocals = 8) (hown : s.vm.findClass RL = some m.cls) (hts : ∀ w ∈ c0 :: wsL_law, w.before args s = true) (hV : va_P D vwCl (kW yy oa O (pV yy h0 an B B2 F G F2 G2 M) (mW yy A FM GM) sa L xs) H) (hK : va_K D vwCl (jT yy) s) (hT : jTP Z s) (hN : jNc s) (hD : va_D Z (kW yy oa O (pV yy h0 an B B2 F G F2 G2 M) (mW yy A FM GM) sa L xs)) (hS : va_S Z s.heap H locs) (hA : ∀ q, s.heap.size ≤ q → Z q) (hl : lv_has ls 8 [(4, .int i), (3, .ref oa), (2, .ref (A 99)), (1, .ref h0), (0, .ref sa)]) (hf : cells + 9 ≤ rmLaw.cells ∧ slots + 64 ≤ rmLaw.slots)
    (kk : ∀ (x6 : Int32) (FM1 : jF) (GM1 : jG) (O1 : Nat → Int64) (H : Heap) (locs : List Loc) (ls : Array Slot), (x6, (FM1, GM1)) = (gX12_share FM GM a1 a2) → va_P D vwCl (kW yy oa O1 (pV yy h0 an B B2 F G F2 G2 M) (mW yy A FM1 GM1) sa L xs) H → va_D Z (kW yy oa O1 (pV yy h0 an B B2 F G F2 G2 M) (mW yy A FM1 GM1) sa L xs) → va_S Z s.heap H locs → lv_has ls 8 [(4, .int i), (3, .ref oa), (2, .ref (A 99)), (1, .ref h0), (0, .ref sa)] → W p l e rmLaw s m args below meth c H locs (cells + 9) (slots + 64) Q (F0 m 2515 ls [])) : W p l e rmLaw s m args below meth c H locs cells slots Q (F0 m 2419 ls []) := by
  have hX := kW_X hV
  refine lv_aload_n hx hb (dd_of dL_law_37 9 rfl) rfl (lv_at hl 3 rfl) ?_
  refine lv_aload_n hx hb (dd_of dL_law_37 10 rfl) rfl (lv_at hl 4 rfl) ?_
  refine lv_iload hx hb (dd_of dL_law_37 11 rfl) (lv_at hl 0 rfl) ?_
  refine lv_iconst (v := 1) hx hb (dd_of dL_law_37 12 rfl) (by decide) ?_
  refine lv_iadd hx hb (dd_of dL_law_37 13 rfl) ?_
  refine va_iald hx hb hK hX 0 0 rfl rfl hi1 (dd_of dL_law_37 14 rfl) ?_
  rw [ha1]
  refine lv_aload_n hx hb (dd_of dL_law_37 15 rfl) rfl (lv_at hl 4 rfl) ?_
  refine lv_iload hx hb (dd_of dL_law_37 16 rfl) (lv_at hl 0 rfl) ?_
  refine lv_iconst (v := 2) hx hb (dd_of dL_law_37 17 rfl) (by decide) ?_
  refine lv_iadd hx hb (dd_of dL_law_37 18 rfl) ?_
  refine va_iald hx hb hK hX 0 0 rfl rfl hi2 (dd_of dL_law_37 19 rfl) ?_
  rw [ha2]
  refine lv_aload_n hx hb (dd_of dL_law_37 20 rfl) rfl (lv_at hl 1 rfl) ?_
  refine js_i (As := [.ref h0, .int a1, .int a2, .ref oa]) (rest := []) (D := D) (yy := yy) (w := (kW yy oa O (pV yy h0 an B B2 F G F2 G2 M) (mW yy A FM GM) sa L xs)) (w1 := fun u : Nat → Int64 => kW yy oa u (pV yy h0 an B B2 F G F2 G2 M) (mW yy A FM GM) sa L xs) ⟨hx, hb, hml, hown, hts⟩ (qL_share l hl9 D yy oa h0 an O B B2 F G F2 G2 M (mW yy A FM GM ++ [(sa, .inl (yy 0, L, .inl xs))]) H.size a1 a2 hok hcod) (vx_cwSW 4 hts (jgW gw1166 gw1167 gw173 gw1168) rfl rfl rfl (by decide +kernel) ⟨Nat.le_of_ble_eq_true rfl, Nat.le_of_ble_eq_true rfl⟩) hV hK hT hN hD hS hA rfl hl.1 rfl (Nat.le_of_ble_eq_true rfl) (dd_of dL_law_37 21 rfl) hf (fun x5 u H locs hp hV hD hS => ?_)
  obtain ⟨O1, hO1⟩ : ∃ z, z = u := ⟨_, rfl⟩
  rw [← hO1] at hp hV hD
  have hp : ((∃ x, (gX11_share F G M a1 a2) = (0, x) ∧ x5 = 0 ∧ O1 = vp_updL O 0 (Int32.toInt64 x)) ∨ ((gX11_share F G M a1 a2).1 ≠ 0 ∧ x5 = wk 1 2 9 (gX11_share F G M a1 a2).1 ∧ O1 = O)) := hp
  have hV : va_P D vwCl (kW yy oa O1 (pV yy h0 an B B2 F G F2 G2 M) (mW yy A FM GM) sa L xs) H := hV
  have hD : va_D Z (kW yy oa O1 (pV yy h0 an B B2 F G F2 G2 M) (mW yy A FM GM) sa L xs) := hD
  have hX := kW_X hV
  have hk5 : x5 = wk 1 2 9 (gX11_share F G M a1 a2).1 := by
    rcases hp with ⟨x, h1, h2, _⟩ | ⟨_, h2, _⟩
    · rw [h2, h1]; rfl
    · exact h2
  refine lv_istore (lv' := [(5, .int x5), (4, .int i), (3, .ref oa), (2, .ref (A 99)), (1, .ref h0), (0, .ref sa)]) hx hb (dd_of dL_law_37 22 rfl) hl (by decide) rfl (fun ls hl => ?_)
  refine lv_aload_n hx hb (dd_of dL_law_37 23 rfl) rfl (lv_at hl 3 rfl) ?_
  refine lv_aload_n hx hb (dd_of dL_law_37 24 rfl) rfl (lv_at hl 5 rfl) ?_
  refine lv_iload hx hb (dd_of dL_law_37 25 rfl) (lv_at hl 1 rfl) ?_
  refine lv_iconst (v := 1) hx hb (dd_of dL_law_37 26 rfl) (by decide) ?_
  refine lv_iadd hx hb (dd_of dL_law_37 27 rfl) ?_
  refine va_iald hx hb hK hX 0 0 rfl rfl hi1 (dd_of dL_law_37 28 rfl) ?_
  rw [ha1]
  refine lv_aload_n hx hb (dd_of dL_law_37 29 rfl) rfl (lv_at hl 5 rfl) ?_
  refine lv_iload hx hb (dd_of dL_law_37 30 rfl) (lv_at hl 1 rfl) ?_
  refine lv_iconst (v := 2) hx hb (dd_of dL_law_37 31 rfl) (by decide) ?_
  refine lv_iadd hx hb (dd_of dL_law_37 32 rfl) ?_
  refine va_iald hx hb hK hX 0 0 rfl rfl hi2 (dd_of dL_law_37 33 rfl) ?_
  rw [ha2]
  refine jt_i (As := [.int a1, .int a2]) (rest := []) (D := D) (yy := yy) (oa := oa) (O := O1) (P := (pV yy h0 an B B2 F G F2 G2 M)) (M := mW yy A FM GM) (w1 := fun u : jS => mW yy A u.1 u.2) ⟨hx, hb, hml, hown, hts⟩ (qX12_share l D yy A FM GM H.size a1 a2 hok12) (cwV 2 hts (jgV gw1208 gw1209 gw1210 gw5 gw1211) rfl rfl rfl (by decide +kernel) ⟨Nat.le_of_ble_eq_true rfl, Nat.le_of_ble_eq_true rfl⟩) hV hK hD hS hA (va_recv hK (kW_M hV) (ci := 12) (q0 := 0) rfl rfl) rfl hl.1 rfl (Nat.le_of_ble_eq_true rfl) (dd_of dL_law_37 34 rfl) hf (fun x6 u H locs h6 hV hD hS => ?_)
  obtain ⟨FM1, GM1⟩ := u
  have h6 : (x6, (FM1, GM1)) = (gX12_share FM GM a1 a2) := h6
  have hV : va_P D vwCl (kW yy oa O1 (pV yy h0 an B B2 F G F2 G2 M) (mW yy A FM1 GM1) sa L xs) H := hV
  have hD : va_D Z (kW yy oa O1 (pV yy h0 an B B2 F G F2 G2 M) (mW yy A FM1 GM1) sa L xs) := hD
  refine lv_istore (lv' := [(6, .int x6), (5, .int x5), (4, .int i), (3, .ref oa), (2, .ref (A 99)), (1, .ref h0), (0, .ref sa)]) hx hb (dd_of dL_law_37 35 rfl) hl (by decide) rfl (fun ls hl => ?_)
  refine lv_aload_n hx hb (dd_of dL_law_37 36 rfl) rfl (lv_at hl 4 rfl) ?_
  refine jc_i (As := []) (rest := []) (w := mW yy A FM1 GM1) (D := D) (yy := yy) ⟨hx, hb, hml, hown, hts⟩ (qX12_thrown l D yy A FM1 GM1) (cwV 0 hts (jgV gw594 gw595 gw596 gw5 gw597) rfl rfl rfl (by decide +kernel) ⟨Nat.le_of_ble_eq_true rfl, Nat.le_of_ble_eq_true rfl⟩) (kW_M hV) hK (va_recv hK (kW_M hV) (ci := 12) (q0 := 0) rfl rfl) rfl hl.1 rfl (Nat.le_of_ble_eq_true rfl) (dd_of dL_law_37 37 rfl) hf (fun x7 e7 => ?_)
  refine lv_iload hx hb (dd_of dL_law_37 38 rfl) (lv_at hl 1 rfl) ?_
  refine lv_icmp_eq (tgt := 2467) hx hb (dd_of dL_law_37 39 rfl) (by decide) (fun c7 => ?_) (fun c7 => absurd (e7.trans ((hth _ _ _ h6).trans hk5.symm)) c7)
  refine lv_iload hx hb (dd_of dL_law_38 2 rfl) (lv_at hl 1 rfl) ?_
  refine lv_if_ne (tgt := 2484) hx hb (dd_of dL_law_38 3 rfl) (by decide) (fun c8 => ?_) (fun c8 => ?_)
  · skip
    refine lv_goto (tgt := 2515) hx hb (dd_of dL_law_38 13 rfl) (by decide) ?_
    exact kk x6 FM1 GM1 O1 H locs ls h6 hV hD hS (lv_sub hl [2, 3, 4, 5, 6] rfl)
  · skip
    have hO := kW_O hV
    have h9 : O1 0 = Int32.toInt64 x6 := by
      rcases hp with ⟨x, h1, _, h2⟩ | ⟨h1, h2, _⟩
      · rw [h2]; exact hval _ _ _ h1 h6
      · exfalso; rw [h2] at c8; rcases hcod with hq | hq | hq <;> first | exact h1 hq | (rw [hq] at c8; exact absurd c8 (by decide))
    refine lv_aload_n hx hb (dd_of dL_law_38 4 rfl) rfl (lv_at hl 3 rfl) ?_
    refine lv_iconst (v := 0) hx hb (dd_of dL_law_38 5 rfl) (by decide) ?_
    refine va_lald hx hb hK hO 0 1 rfl rfl (vin_lit (by decide)) (dd_of dL_law_38 6 rfl) ?_
    refine lv_iload hx hb (dd_of dL_law_38 7 rfl) (lv_at hl 0 rfl) ?_
    refine lv_i2l (v := Int32.toInt64 x6) hx hb (dd_of dL_law_38 8 rfl) rfl ?_
    refine jl_eq (tgt := 2484) hx hb (dd_of dL_law_38 9 rfl) (dd_of dL_law_38 10 rfl) (by decide) (fun c10 => ?_) (fun c10 => absurd h9 c10)
    refine lv_goto (tgt := 2515) hx hb (dd_of dL_law_38 13 rfl) (by decide) ?_
    exact kk x6 FM1 GM1 O1 H locs ls h6 hV hD hS (lv_sub hl [2, 3, 4, 5, 6] rfl)
