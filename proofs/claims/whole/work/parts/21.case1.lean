-- cases of the law
set_option maxHeartbeats 4000000 in
set_option maxRecDepth 100000 in
theorem cs_addBasin {p : Program} {l : Launch} {e : Env} {s : State} {m : MethodId} {args : Array Value} {below : List Frame} {meth : Method} {c : Code} {H : Heap} {locs : List Loc} {cells slots : Nat} {Q : State → Prop} {ls : Array Slot} {c0 : Cond} {D : va_G} {yy : Nat → ClassId} {Z : Nat → Prop} (hl9 : l.stackTraces = false) (oa h0 an sa L : Nat) (i : Int32) (xs : Nat → Int32) (O : Nat → Int64) (A B B2 : Nat → Nat) (F : jF) (G : jG) (F2 : jF) (G2 : jG) (M FM : jF) (GM : jG) (a1 : Int32) (hi1 : vp_in (i + 1) L) (ha1 : xs (Int32.toNatClampNeg (i + 1)) = a1) (a2 : Int32) (hi2 : vp_in (i + 2) L) (ha2 : xs (Int32.toNatClampNeg (i + 2)) = a2) (hok : okX11_addBasin F G M a1 a2) (hcod : (gX11_addBasin F G M a1 a2).1 = 0 ∨ (gX11_addBasin F G M a1 a2).1 = 2 ∨ (gX11_addBasin F G M a1 a2).1 = 3) (hok12 : okX12_addBasin FM GM a1 a2) (hth : ∀ (x6 : Int32) (FM1 : jF) (GM1 : jG), (x6, (FM1, GM1)) = (gX12_addBasin FM GM a1 a2) → gX12_thrown FM1 GM1 = wk 2 3 9 (gX11_addBasin F G M a1 a2).1) (hval : ∀ x st x6 st6, (gX11_addBasin F G M a1 a2) = (0, (x, st)) → (x6, st6) = (gX12_addBasin FM GM a1 a2) → Int32.toInt64 x = Int32.toInt64 x6) (hx : p.tables.exec = Jvm.exec) (hb : c.code = cL_law) (hml : c.maxLocals = 8) (hown : s.vm.findClass RL = some m.cls) (hts : ∀ w ∈ c0 :: wsL_law, w.before args s = true) (hV : va_P D vwCl (kW yy oa O (pV yy h0 an B B2 F G F2 G2 M) (mW yy A FM GM) sa L xs) H) (hK : va_K D vwCl (jT yy) s) (hT : jTP Z s) (hN : jNc s) (hD : va_D Z (kW yy oa O (pV yy h0 an B B2 F G F2 G2 M) (mW yy A FM GM) sa L xs)) (hS : va_S Z s.heap H locs) (hA : ∀ q, s.heap.size ≤ q → Z q) (hX0 : va_X sa L xs s s.heap) (hbl : sa < s.heap.size) (hbA : ¬ Z sa) (hl : lv_has ls 8 [(4, .int i), (3, .ref oa), (2, .ref (A 99)), (1, .ref h0), (0, .ref sa)]) (hf : cells + 9 ≤ rmLaw.cells ∧ slots + 64 ≤ rmLaw.slots)
    (kk : ∀ (B1 : Nat → Nat) (F1 : jF) (G1 : jG) (M1 : jF) (x6 : Int32) (FM1 : jF) (GM1 : jG) (O1 : Nat → Int64) (H : Heap) (locs : List Loc) (ls : Array Slot), ((∃ x, (gX11_addBasin F G M a1 a2) = (0, (x, ((F1, G1), M1)))) ∨ ((gX11_addBasin F G M a1 a2).1 ≠ 0 ∧ B1 = B ∧ F1 = F ∧ G1 = G ∧ M1 = M)) → (∀ k, k < 100 → B1 k = B k) → (x6, (FM1, GM1)) = (gX12_addBasin FM GM a1 a2) → va_P D vwCl (kW yy oa O1 (pV yy h0 an B1 B2 F1 G1 F2 G2 M1) (mW yy A FM1 GM1) sa L xs) H → va_D Z (kW yy oa O1 (pV yy h0 an B1 B2 F1 G1 F2 G2 M1) (mW yy A FM1 GM1) sa L xs) → va_S Z s.heap H locs → lv_has ls 8 [(4, .int i), (3, .ref oa), (2, .ref (A 99)), (1, .ref h0), (0, .ref sa)] → W p l e rmLaw s m args below meth c H locs (cells + 9) (slots + 64) Q (F0 m 2515 ls [])) : W p l e rmLaw s m args below meth c H locs cells slots Q (F0 m 200 ls []) := by
  refine lv_aload_n hx hb (dd_of dL_law_0 25 rfl) rfl (lv_at hl 3 rfl) ?_
  refine lv_aload_n hx hb (dd_of dL_law_0 26 rfl) rfl (lv_at hl 4 rfl) ?_
  refine lv_iload hx hb (dd_of dL_law_0 27 rfl) (lv_at hl 0 rfl) ?_
  refine lv_iconst (v := 1) hx hb (dd_of dL_law_0 28 rfl) (by decide) ?_
  refine lv_iadd hx hb (dd_of dL_law_0 29 rfl) ?_
  refine va_sld hx hb hX0 hbl hbA hS hi1 (dd_of dL_law_0 30 rfl) ?_
  rw [ha1]
  refine lv_aload_n hx hb (dd_of dL_law_0 31 rfl) rfl (lv_at hl 4 rfl) ?_
  refine lv_iload hx hb (dd_of dL_law_0 32 rfl) (lv_at hl 0 rfl) ?_
  refine lv_iconst (v := 2) hx hb (dd_of dL_law_0 33 rfl) (by decide) ?_
  refine lv_iadd hx hb (dd_of dL_law_0 34 rfl) ?_
  refine va_sld hx hb hX0 hbl hbA hS hi2 (dd_of dL_law_0 35 rfl) ?_
  rw [ha2]
  refine lv_aload_n hx hb (dd_of dL_law_0 36 rfl) rfl (lv_at hl 1 rfl) ?_
  have hq := qL_addBasin l hl9 D yy oa h0 an O B B2 F G F2 G2 M (mW yy A FM GM ++ []) H.size a1 a2 hok hcod
  refine js_i (As := [.ref h0, .int a1, .int a2, .ref oa]) (rest := []) (D := D) (yy := yy) (w := (kW yy oa O (pV yy h0 an B B2 F G F2 G2 M) (mW yy A FM GM) sa L xs)) (w1 := fun u : (((Nat → Nat) × jS) × jF) × (Nat → Int64) => kW yy oa u.2 (pV yy h0 an u.1.1.1 B2 u.1.1.2.1 u.1.1.2.2 F2 G2 u.1.2) (mW yy A FM GM) sa L xs) ⟨hx, hb, hml, hown, hts⟩ hq (vx_cwSW 4 hts (jgW gw171 gw172 gw173 gw174) rfl rfl rfl (by decide +kernel) ⟨Nat.le_of_ble_eq_true rfl, Nat.le_of_ble_eq_true rfl⟩) hV hK hT hN hD hS hA rfl hl.1 rfl (Nat.le_of_ble_eq_true rfl) (dd_of dL_law_0 37 rfl) hf (fun x5 u H locs hp hV hD hS => ?_)
  obtain ⟨⟨⟨B1, F1, G1⟩, M1⟩, O1⟩ := u
  obtain ⟨hp, hB1⟩ := hp
  have hB1 : ∀ k, k < 100 → B1 k = B k := hB1
  have hp : ((∃ x, (gX11_addBasin F G M a1 a2) = (0, (x, ((F1, G1), M1))) ∧ x5 = 0 ∧ O1 = vp_updL O 0 (Int32.toInt64 x)) ∨ ((gX11_addBasin F G M a1 a2).1 ≠ 0 ∧ x5 = wk 2 3 9 (gX11_addBasin F G M a1 a2).1 ∧ (((B1, (F1, G1)), M1), O1) = (((B, (F, G)), M), O))) := hp
  have hV : va_P D vwCl (kW yy oa O1 (pV yy h0 an B1 B2 F1 G1 F2 G2 M1) (mW yy A FM GM) sa L xs) H := hV
  have hD : va_D Z (kW yy oa O1 (pV yy h0 an B1 B2 F1 G1 F2 G2 M1) (mW yy A FM GM) sa L xs) := hD
  have hk5 : x5 = wk 2 3 9 (gX11_addBasin F G M a1 a2).1 := by
    rcases hp with ⟨x, h1, h2, _⟩ | ⟨_, h2, _⟩
    · rw [h2, h1]; rfl
    · exact h2
  refine lv_istore (lv' := [(5, .int x5), (4, .int i), (3, .ref oa), (2, .ref (A 99)), (1, .ref h0), (0, .ref sa)]) hx hb (dd_of dL_law_0 38 rfl) hl (by decide) rfl (fun ls hl => ?_)
  refine lv_aload_n hx hb (dd_of dL_law_0 39 rfl) rfl (lv_at hl 3 rfl) ?_
  refine lv_aload_n hx hb (dd_of dL_law_1 0 rfl) rfl (lv_at hl 5 rfl) ?_
  refine lv_iload hx hb (dd_of dL_law_1 1 rfl) (lv_at hl 1 rfl) ?_
  refine lv_iconst (v := 1) hx hb (dd_of dL_law_1 2 rfl) (by decide) ?_
  refine lv_iadd hx hb (dd_of dL_law_1 3 rfl) ?_
  refine va_sld hx hb hX0 hbl hbA hS hi1 (dd_of dL_law_1 4 rfl) ?_
  rw [ha1]
  refine lv_aload_n hx hb (dd_of dL_law_1 5 rfl) rfl (lv_at hl 5 rfl) ?_
  refine lv_iload hx hb (dd_of dL_law_1 6 rfl) (lv_at hl 1 rfl) ?_
  refine lv_iconst (v := 2) hx hb (dd_of dL_law_1 7 rfl) (by decide) ?_
  refine lv_iadd hx hb (dd_of dL_law_1 8 rfl) ?_
  refine va_sld hx hb hX0 hbl hbA hS hi2 (dd_of dL_law_1 9 rfl) ?_
  rw [ha2]
  refine jt_i (As := [.int a1, .int a2]) (rest := []) (D := D) (yy := yy) (oa := oa) (O := O1) (P := (pV yy h0 an B1 B2 F1 G1 F2 G2 M1)) (M := mW yy A FM GM) (w1 := fun u : jS => mW yy A u.1 u.2) ⟨hx, hb, hml, hown, hts⟩ (qX12_addBasin l D yy A FM GM H.size a1 a2 hok12) (cwV 2 hts (jgV gw585 gw586 gw587 gw5 gw588) rfl rfl rfl (by decide +kernel) ⟨Nat.le_of_ble_eq_true rfl, Nat.le_of_ble_eq_true rfl⟩) hV hK hD hS hA (va_recv hK (kW_M hV) (ci := 12) (q0 := 0) rfl rfl) rfl hl.1 rfl (Nat.le_of_ble_eq_true rfl) (dd_of dL_law_1 10 rfl) hf (fun x6 u H locs h6 hV hD hS => ?_)
  obtain ⟨FM1, GM1⟩ := u
  have h6 : (x6, (FM1, GM1)) = (gX12_addBasin FM GM a1 a2) := h6
  have hV : va_P D vwCl (kW yy oa O1 (pV yy h0 an B1 B2 F1 G1 F2 G2 M1) (mW yy A FM1 GM1) sa L xs) H := hV
  have hD : va_D Z (kW yy oa O1 (pV yy h0 an B1 B2 F1 G1 F2 G2 M1) (mW yy A FM1 GM1) sa L xs) := hD
  refine lv_istore (lv' := [(6, .int x6), (5, .int x5), (4, .int i), (3, .ref oa), (2, .ref (A 99)), (1, .ref h0), (0, .ref sa)]) hx hb (dd_of dL_law_1 11 rfl) hl (by decide) rfl (fun ls hl => ?_)
  refine lv_aload_n hx hb (dd_of dL_law_1 12 rfl) rfl (lv_at hl 4 rfl) ?_
  refine jc_i (As := []) (rest := []) (w := mW yy A FM1 GM1) (D := D) (yy := yy) ⟨hx, hb, hml, hown, hts⟩ (qX12_thrown l D yy A FM1 GM1) (cwV 0 hts (jgV gw594 gw595 gw596 gw5 gw597) rfl rfl rfl (by decide +kernel) ⟨Nat.le_of_ble_eq_true rfl, Nat.le_of_ble_eq_true rfl⟩) (kW_M hV) hK (va_recv hK (kW_M hV) (ci := 12) (q0 := 0) rfl rfl) rfl hl.1 rfl (Nat.le_of_ble_eq_true rfl) (dd_of dL_law_1 13 rfl) hf (fun x7 e7 => ?_)
  refine lv_iload hx hb (dd_of dL_law_1 14 rfl) (lv_at hl 1 rfl) ?_
  refine lv_icmp_eq (tgt := 248) hx hb (dd_of dL_law_1 15 rfl) (by decide) (fun c7 => ?_) (fun c7 => absurd (e7.trans ((hth _ _ _ h6).trans hk5.symm)) c7)
  have how : ((∃ x, (gX11_addBasin F G M a1 a2) = (0, (x, ((F1, G1), M1)))) ∨ ((gX11_addBasin F G M a1 a2).1 ≠ 0 ∧ B1 = B ∧ F1 = F ∧ G1 = G ∧ M1 = M)) := by
    rcases hp with ⟨x, h1, _, _⟩ | ⟨h1, _, h2⟩
    · exact Or.inl ⟨x, h1⟩
    · simp only [Prod.mk.injEq] at h2
      exact Or.inr ⟨h1, h2.1.1.1, h2.1.1.2.1, h2.1.1.2.2, h2.1.2⟩
  refine lv_iload hx hb (dd_of dL_law_1 18 rfl) (lv_at hl 1 rfl) ?_
  refine lv_if_ne (tgt := 265) hx hb (dd_of dL_law_1 19 rfl) (by decide) (fun c8 => ?_) (fun c8 => ?_)
  · skip
    refine lv_goto (tgt := 2515) hx hb (dd_of dL_law_1 29 rfl) (by decide) ?_
    exact kk B1 F1 G1 M1 x6 FM1 GM1 O1 H locs ls how hB1 h6 hV hD hS (lv_sub hl [2, 3, 4, 5, 6] rfl)
  · skip
    have hO := kW_O hV
    have h9 : O1 0 = Int32.toInt64 x6 := by
      rcases hp with ⟨x, h1, _, h2⟩ | ⟨h1, h2, _⟩
      · rw [h2]; exact hval _ _ _ _ h1 h6
      · exfalso; rw [h2] at c8; rcases hcod with hq | hq | hq <;> first | exact h1 hq | (rw [hq] at c8; exact absurd c8 (by decide))
    refine lv_aload_n hx hb (dd_of dL_law_1 20 rfl) rfl (lv_at hl 3 rfl) ?_
    refine lv_iconst (v := 0) hx hb (dd_of dL_law_1 21 rfl) (by decide) ?_
    refine va_lald hx hb hK hO 0 1 rfl rfl (vin_lit (by decide)) (dd_of dL_law_1 22 rfl) ?_
    refine lv_iload hx hb (dd_of dL_law_1 23 rfl) (lv_at hl 0 rfl) ?_
    refine lv_i2l (v := Int32.toInt64 x6) hx hb (dd_of dL_law_1 24 rfl) rfl ?_
    refine jl_eq (tgt := 265) hx hb (dd_of dL_law_1 25 rfl) (dd_of dL_law_1 26 rfl) (by decide) (fun c10 => ?_) (fun c10 => absurd h9 c10)
    refine lv_goto (tgt := 2515) hx hb (dd_of dL_law_1 29 rfl) (by decide) ?_
    exact kk B1 F1 G1 M1 x6 FM1 GM1 O1 H locs ls how hB1 h6 hV hD hS (lv_sub hl [2, 3, 4, 5, 6] rfl)
set_option maxHeartbeats 4000000 in
set_option maxRecDepth 100000 in
theorem cs_setLand {p : Program} {l : Launch} {e : Env} {s : State} {m : MethodId} {args : Array Value} {below : List Frame} {meth : Method} {c : Code} {H : Heap} {locs : List Loc} {cells slots : Nat} {Q : State → Prop} {ls : Array Slot} {c0 : Cond} {D : va_G} {yy : Nat → ClassId} {Z : Nat → Prop} (hl9 : l.stackTraces = false) (oa h0 an sa L : Nat) (i : Int32) (xs : Nat → Int32) (O : Nat → Int64) (A B B2 : Nat → Nat) (F : jF) (G : jG) (F2 : jF) (G2 : jG) (M FM : jF) (GM : jG) (a1 : Int32) (hi1 : vp_in (i + 1) L) (ha1 : xs (Int32.toNatClampNeg (i + 1)) = a1) (a2 : Int32) (hi2 : vp_in (i + 2) L) (ha2 : xs (Int32.toNatClampNeg (i + 2)) = a2) (a3 : Int32) (hi3 : vp_in (i + 3) L) (ha3 : xs (Int32.toNatClampNeg (i + 3)) = a3) (a4 : Int32) (hi4 : vp_in (i + 4) L) (ha4 : xs (Int32.toNatClampNeg (i + 4)) = a4) (hok : okX11_setLand F G M a1 a2 a3 a4) (hcod : (gX11_setLand F G M a1 a2 a3 a4).1 = 0 ∨ (gX11_setLand F G M a1 a2 a3 a4).1 = 1 ∨ (gX11_setLand F G M a1 a2 a3 a4).1 = 2) (hok12 : okX12_setLand FM GM a1 a2 a3 a4) (hth : ∀ (FM1 : jF) (GM1 : jG), (FM1, GM1) = (gX12_setLand FM GM a1 a2 a3 a4) → gX12_thrown FM1 GM1 = wk 1 2 9 (gX11_setLand F G M a1 a2 a3 a4).1) (hx : p.tables.exec = Jvm.exec) (hb : c.code = cL_law) (hml : c.maxLocals = 8) (hown : s.vm.findClass RL = some m.cls) (hts : ∀ w ∈ c0 :: wsL_law, w.before args s = true) (hV : va_P D vwCl (kW yy oa O (pV yy h0 an B B2 F G F2 G2 M) (mW yy A FM GM) sa L xs) H) (hK : va_K D vwCl (jT yy) s) (hT : jTP Z s) (hN : jNc s) (hD : va_D Z (kW yy oa O (pV yy h0 an B B2 F G F2 G2 M) (mW yy A FM GM) sa L xs)) (hS : va_S Z s.heap H locs) (hA : ∀ q, s.heap.size ≤ q → Z q) (hX0 : va_X sa L xs s s.heap) (hbl : sa < s.heap.size) (hbA : ¬ Z sa) (hl : lv_has ls 8 [(4, .int i), (3, .ref oa), (2, .ref (A 99)), (1, .ref h0), (0, .ref sa)]) (hf : cells + 9 ≤ rmLaw.cells ∧ slots + 64 ≤ rmLaw.slots)
    (kk : ∀ (B1 : Nat → Nat) (F1 : jF) (G1 : jG) (M1 : jF) (FM1 : jF) (GM1 : jG) (O1 : Nat → Int64) (H : Heap) (locs : List Loc) (ls : Array Slot), (((gX11_setLand F G M a1 a2 a3 a4) = (0, ((F1, G1), M1))) ∨ ((gX11_setLand F G M a1 a2 a3 a4).1 ≠ 0 ∧ B1 = B ∧ F1 = F ∧ G1 = G ∧ M1 = M)) → (∀ k, k < 100 → B1 k = B k) → (FM1, GM1) = (gX12_setLand FM GM a1 a2 a3 a4) → va_P D vwCl (kW yy oa O1 (pV yy h0 an B1 B2 F1 G1 F2 G2 M1) (mW yy A FM1 GM1) sa L xs) H → va_D Z (kW yy oa O1 (pV yy h0 an B1 B2 F1 G1 F2 G2 M1) (mW yy A FM1 GM1) sa L xs) → va_S Z s.heap H locs → lv_has ls 8 [(4, .int i), (3, .ref oa), (2, .ref (A 99)), (1, .ref h0), (0, .ref sa)] → W p l e rmLaw s m args below meth c H locs (cells + 9) (slots + 64) Q (F0 m 2515 ls [])) : W p l e rmLaw s m args below meth c H locs cells slots Q (F0 m 268 ls []) := by
  refine lv_aload_n hx hb (dd_of dL_law_1 30 rfl) rfl (lv_at hl 3 rfl) ?_
  refine lv_aload_n hx hb (dd_of dL_law_1 31 rfl) rfl (lv_at hl 4 rfl) ?_
  refine lv_iload hx hb (dd_of dL_law_1 32 rfl) (lv_at hl 0 rfl) ?_
  refine lv_iconst (v := 1) hx hb (dd_of dL_law_1 33 rfl) (by decide) ?_
  refine lv_iadd hx hb (dd_of dL_law_1 34 rfl) ?_
  refine va_sld hx hb hX0 hbl hbA hS hi1 (dd_of dL_law_1 35 rfl) ?_
  rw [ha1]
  refine lv_aload_n hx hb (dd_of dL_law_1 36 rfl) rfl (lv_at hl 4 rfl) ?_
  refine lv_iload hx hb (dd_of dL_law_1 37 rfl) (lv_at hl 0 rfl) ?_
  refine lv_iconst (v := 2) hx hb (dd_of dL_law_1 38 rfl) (by decide) ?_
  refine lv_iadd hx hb (dd_of dL_law_1 39 rfl) ?_
  refine va_sld hx hb hX0 hbl hbA hS hi2 (dd_of dL_law_2 0 rfl) ?_
  rw [ha2]
  refine lv_aload_n hx hb (dd_of dL_law_2 1 rfl) rfl (lv_at hl 4 rfl) ?_
  refine lv_iload hx hb (dd_of dL_law_2 2 rfl) (lv_at hl 0 rfl) ?_
  refine lv_iconst (v := 3) hx hb (dd_of dL_law_2 3 rfl) (by decide) ?_
  refine lv_iadd hx hb (dd_of dL_law_2 4 rfl) ?_
  refine va_sld hx hb hX0 hbl hbA hS hi3 (dd_of dL_law_2 5 rfl) ?_
  rw [ha3]
  refine lv_aload_n hx hb (dd_of dL_law_2 6 rfl) rfl (lv_at hl 4 rfl) ?_
  refine lv_iload hx hb (dd_of dL_law_2 7 rfl) (lv_at hl 0 rfl) ?_
  refine lv_iconst (v := 4) hx hb (dd_of dL_law_2 8 rfl) (by decide) ?_
  refine lv_iadd hx hb (dd_of dL_law_2 9 rfl) ?_
  refine va_sld hx hb hX0 hbl hbA hS hi4 (dd_of dL_law_2 10 rfl) ?_
  rw [ha4]
  have hq := qL_setLand l hl9 D yy oa h0 an O B B2 F G F2 G2 M (mW yy A FM GM ++ []) H.size a1 a2 a3 a4 hok hcod
  refine js_i (As := [.ref h0, .int a1, .int a2, .int a3, .int a4]) (rest := []) (D := D) (yy := yy) (w := (kW yy oa O (pV yy h0 an B B2 F G F2 G2 M) (mW yy A FM GM) sa L xs)) (w1 := fun u : (((Nat → Nat) × jS) × jF) × (Nat → Int64) => kW yy oa u.2 (pV yy h0 an u.1.1.1 B2 u.1.1.2.1 u.1.1.2.2 F2 G2 u.1.2) (mW yy A FM GM) sa L xs) ⟨hx, hb, hml, hown, hts⟩ hq (vx_cwSW 5 hts (jgW gw598 gw599 gw173 gw600) rfl rfl rfl (by decide +kernel) ⟨Nat.le_of_ble_eq_true rfl, Nat.le_of_ble_eq_true rfl⟩) hV hK hT hN hD hS hA rfl hl.1 rfl (Nat.le_of_ble_eq_true rfl) (dd_of dL_law_2 11 rfl) hf (fun x5 u H locs hp hV hD hS => ?_)
  obtain ⟨⟨⟨B1, F1, G1⟩, M1⟩, O1⟩ := u
  obtain ⟨hp, hB1⟩ := hp
  have hB1 : ∀ k, k < 100 → B1 k = B k := hB1
  have hp : (((gX11_setLand F G M a1 a2 a3 a4) = (0, ((F1, G1), M1)) ∧ x5 = 0 ∧ O1 = O) ∨ ((gX11_setLand F G M a1 a2 a3 a4).1 ≠ 0 ∧ x5 = wk 1 2 9 (gX11_setLand F G M a1 a2 a3 a4).1 ∧ (((B1, (F1, G1)), M1), O1) = (((B, (F, G)), M), O))) := hp
  have hV : va_P D vwCl (kW yy oa O1 (pV yy h0 an B1 B2 F1 G1 F2 G2 M1) (mW yy A FM GM) sa L xs) H := hV
  have hD : va_D Z (kW yy oa O1 (pV yy h0 an B1 B2 F1 G1 F2 G2 M1) (mW yy A FM GM) sa L xs) := hD
  have hk5 : x5 = wk 1 2 9 (gX11_setLand F G M a1 a2 a3 a4).1 := by
    rcases hp with ⟨h1, h2, _⟩ | ⟨_, h2, _⟩
    · rw [h2, h1]; rfl
    · exact h2
  refine lv_istore (lv' := [(5, .int x5), (4, .int i), (3, .ref oa), (2, .ref (A 99)), (1, .ref h0), (0, .ref sa)]) hx hb (dd_of dL_law_2 12 rfl) hl (by decide) rfl (fun ls hl => ?_)
  refine lv_aload_n hx hb (dd_of dL_law_2 13 rfl) rfl (lv_at hl 3 rfl) ?_
  refine lv_aload_n hx hb (dd_of dL_law_2 14 rfl) rfl (lv_at hl 5 rfl) ?_
  refine lv_iload hx hb (dd_of dL_law_2 15 rfl) (lv_at hl 1 rfl) ?_
  refine lv_iconst (v := 1) hx hb (dd_of dL_law_2 16 rfl) (by decide) ?_
  refine lv_iadd hx hb (dd_of dL_law_2 17 rfl) ?_
  refine va_sld hx hb hX0 hbl hbA hS hi1 (dd_of dL_law_2 18 rfl) ?_
  rw [ha1]
  refine lv_aload_n hx hb (dd_of dL_law_2 19 rfl) rfl (lv_at hl 5 rfl) ?_
  refine lv_iload hx hb (dd_of dL_law_2 20 rfl) (lv_at hl 1 rfl) ?_
  refine lv_iconst (v := 2) hx hb (dd_of dL_law_2 21 rfl) (by decide) ?_
  refine lv_iadd hx hb (dd_of dL_law_2 22 rfl) ?_
  refine va_sld hx hb hX0 hbl hbA hS hi2 (dd_of dL_law_2 23 rfl) ?_
  rw [ha2]
  refine lv_aload_n hx hb (dd_of dL_law_2 24 rfl) rfl (lv_at hl 5 rfl) ?_
  refine lv_iload hx hb (dd_of dL_law_2 25 rfl) (lv_at hl 1 rfl) ?_
  refine lv_iconst (v := 3) hx hb (dd_of dL_law_2 26 rfl) (by decide) ?_
  refine lv_iadd hx hb (dd_of dL_law_2 27 rfl) ?_
  refine va_sld hx hb hX0 hbl hbA hS hi3 (dd_of dL_law_2 28 rfl) ?_
  rw [ha3]
  refine lv_aload_n hx hb (dd_of dL_law_2 29 rfl) rfl (lv_at hl 5 rfl) ?_
  refine lv_iload hx hb (dd_of dL_law_2 30 rfl) (lv_at hl 1 rfl) ?_
  refine lv_iconst (v := 4) hx hb (dd_of dL_law_2 31 rfl) (by decide) ?_
  refine lv_iadd hx hb (dd_of dL_law_2 32 rfl) ?_
  refine va_sld hx hb hX0 hbl hbA hS hi4 (dd_of dL_law_2 33 rfl) ?_
  rw [ha4]
  refine jt_v (As := [.int a1, .int a2, .int a3, .int a4]) (rest := []) (D := D) (yy := yy) (oa := oa) (O := O1) (P := (pV yy h0 an B1 B2 F1 G1 F2 G2 M1)) (M := mW yy A FM GM) (w1 := fun u : jS => mW yy A u.1 u.2) ⟨hx, hb, hml, hown, hts⟩ (qX12_setLand l D yy A FM GM H.size a1 a2 a3 a4 hok12) (cwV 4 hts (jgV gw613 gw614 gw615 gw5 gw616) rfl rfl rfl (by decide +kernel) ⟨Nat.le_of_ble_eq_true rfl, Nat.le_of_ble_eq_true rfl⟩) hV hK hD hS hA (va_recv hK (kW_M hV) (ci := 12) (q0 := 0) rfl rfl) rfl hl.1 rfl (Nat.le_of_ble_eq_true rfl) (dd_of dL_law_2 34 rfl) hf (fun u H locs h6 hV hD hS => ?_)
  obtain ⟨FM1, GM1⟩ := u
  have h6 : (FM1, GM1) = (gX12_setLand FM GM a1 a2 a3 a4) := h6
  have hV : va_P D vwCl (kW yy oa O1 (pV yy h0 an B1 B2 F1 G1 F2 G2 M1) (mW yy A FM1 GM1) sa L xs) H := hV
  have hD : va_D Z (kW yy oa O1 (pV yy h0 an B1 B2 F1 G1 F2 G2 M1) (mW yy A FM1 GM1) sa L xs) := hD
  refine lv_aload_n hx hb (dd_of dL_law_2 35 rfl) rfl (lv_at hl 3 rfl) ?_
  refine jc_i (As := []) (rest := []) (w := mW yy A FM1 GM1) (D := D) (yy := yy) ⟨hx, hb, hml, hown, hts⟩ (qX12_thrown l D yy A FM1 GM1) (cwV 0 hts (jgV gw594 gw595 gw596 gw5 gw597) rfl rfl rfl (by decide +kernel) ⟨Nat.le_of_ble_eq_true rfl, Nat.le_of_ble_eq_true rfl⟩) (kW_M hV) hK (va_recv hK (kW_M hV) (ci := 12) (q0 := 0) rfl rfl) rfl hl.1 rfl (Nat.le_of_ble_eq_true rfl) (dd_of dL_law_2 36 rfl) hf (fun x7 e7 => ?_)
  refine lv_iload hx hb (dd_of dL_law_2 37 rfl) (lv_at hl 0 rfl) ?_
  refine lv_icmp_eq (tgt := 337) hx hb (dd_of dL_law_2 38 rfl) (by decide) (fun c7 => ?_) (fun c7 => absurd (e7.trans ((hth _ _ h6).trans hk5.symm)) c7)
  have how : (((gX11_setLand F G M a1 a2 a3 a4) = (0, ((F1, G1), M1))) ∨ ((gX11_setLand F G M a1 a2 a3 a4).1 ≠ 0 ∧ B1 = B ∧ F1 = F ∧ G1 = G ∧ M1 = M)) := by
    rcases hp with ⟨h1, _, _⟩ | ⟨h1, _, h2⟩
    · exact Or.inl h1
    · simp only [Prod.mk.injEq] at h2
      exact Or.inr ⟨h1, h2.1.1.1, h2.1.1.2.1, h2.1.1.2.2, h2.1.2⟩
  refine lv_goto (tgt := 2515) hx hb (dd_of dL_law_3 1 rfl) (by decide) ?_
  exact kk B1 F1 G1 M1 FM1 GM1 O1 H locs ls how hB1 h6 hV hD hS (lv_sub hl [1, 2, 3, 4, 5] rfl)
set_option maxHeartbeats 4000000 in
set_option maxRecDepth 100000 in
theorem cs_pour {p : Program} {l : Launch} {e : Env} {s : State} {m : MethodId} {args : Array Value} {below : List Frame} {meth : Method} {c : Code} {H : Heap} {locs : List Loc} {cells slots : Nat} {Q : State → Prop} {ls : Array Slot} {c0 : Cond} {D : va_G} {yy : Nat → ClassId} {Z : Nat → Prop} (hl9 : l.stackTraces = false) (oa h0 an sa L : Nat) (i : Int32) (xs : Nat → Int32) (O : Nat → Int64) (A B B2 : Nat → Nat) (F : jF) (G : jG) (F2 : jF) (G2 : jG) (M FM : jF) (GM : jG) (a1 : Int32) (hi1 : vp_in (i + 1) L) (ha1 : xs (Int32.toNatClampNeg (i + 1)) = a1) (a2 : Int32) (hi2 : vp_in (i + 2) L) (ha2 : xs (Int32.toNatClampNeg (i + 2)) = a2) (hok : okX11_pour F G M a1 a2) (hcod : (gX11_pour F G M a1 a2).1 = 0 ∨ (gX11_pour F G M a1 a2).1 = 1 ∨ (gX11_pour F G M a1 a2).1 = 2) (hok12 : okX12_pour FM GM a1 a2) (hth : ∀ (x6 : Int64) (FM1 : jF) (GM1 : jG), (x6, (FM1, GM1)) = (gX12_pour FM GM a1 a2) → gX12_thrown FM1 GM1 = wk 1 2 9 (gX11_pour F G M a1 a2).1) (hval : ∀ x st x6 st6, (gX11_pour F G M a1 a2) = (0, (x, st)) → (x6, st6) = (gX12_pour FM GM a1 a2) → x = x6) (hx : p.tables.exec = Jvm.exec) (hb : c.code = cL_law) (hml : c.maxLocals = 8) (hown : s.vm.findClass RL = some m.cls) (hts : ∀ w ∈ c0 :: wsL_law, w.before args s = true) (hV : va_P D vwCl (kW yy oa O (pV yy h0 an B B2 F G F2 G2 M) (mW yy A FM GM) sa L xs) H) (hK : va_K D vwCl (jT yy) s) (hT : jTP Z s) (hN : jNc s) (hD : va_D Z (kW yy oa O (pV yy h0 an B B2 F G F2 G2 M) (mW yy A FM GM) sa L xs)) (hS : va_S Z s.heap H locs) (hA : ∀ q, s.heap.size ≤ q → Z q) (hX0 : va_X sa L xs s s.heap) (hbl : sa < s.heap.size) (hbA : ¬ Z sa) (hl : lv_has ls 8 [(4, .int i), (3, .ref oa), (2, .ref (A 99)), (1, .ref h0), (0, .ref sa)]) (hf : cells + 9 ≤ rmLaw.cells ∧ slots + 64 ≤ rmLaw.slots)
    (kk : ∀ (B1 : Nat → Nat) (F1 : jF) (G1 : jG) (M1 : jF) (x6 : Int64) (FM1 : jF) (GM1 : jG) (O1 : Nat → Int64) (H : Heap) (locs : List Loc) (ls : Array Slot), ((∃ x, (gX11_pour F G M a1 a2) = (0, (x, ((F1, G1), M1)))) ∨ ((gX11_pour F G M a1 a2).1 ≠ 0 ∧ B1 = B ∧ F1 = F ∧ G1 = G ∧ M1 = M)) → (∀ k, k < 100 → B1 k = B k) → (x6, (FM1, GM1)) = (gX12_pour FM GM a1 a2) → va_P D vwCl (kW yy oa O1 (pV yy h0 an B1 B2 F1 G1 F2 G2 M1) (mW yy A FM1 GM1) sa L xs) H → va_D Z (kW yy oa O1 (pV yy h0 an B1 B2 F1 G1 F2 G2 M1) (mW yy A FM1 GM1) sa L xs) → va_S Z s.heap H locs → lv_has ls 8 [(4, .int i), (3, .ref oa), (2, .ref (A 99)), (1, .ref h0), (0, .ref sa)] → W p l e rmLaw s m args below meth c H locs (cells + 9) (slots + 64) Q (F0 m 2515 ls [])) : W p l e rmLaw s m args below meth c H locs cells slots Q (F0 m 340 ls []) := by
  refine lv_aload_n hx hb (dd_of dL_law_3 2 rfl) rfl (lv_at hl 3 rfl) ?_
  refine lv_aload_n hx hb (dd_of dL_law_3 3 rfl) rfl (lv_at hl 4 rfl) ?_
  refine lv_iload hx hb (dd_of dL_law_3 4 rfl) (lv_at hl 0 rfl) ?_
  refine lv_iconst (v := 1) hx hb (dd_of dL_law_3 5 rfl) (by decide) ?_
  refine lv_iadd hx hb (dd_of dL_law_3 6 rfl) ?_
  refine va_sld hx hb hX0 hbl hbA hS hi1 (dd_of dL_law_3 7 rfl) ?_
  rw [ha1]
  refine lv_aload_n hx hb (dd_of dL_law_3 8 rfl) rfl (lv_at hl 4 rfl) ?_
  refine lv_iload hx hb (dd_of dL_law_3 9 rfl) (lv_at hl 0 rfl) ?_
  refine lv_iconst (v := 2) hx hb (dd_of dL_law_3 10 rfl) (by decide) ?_
  refine lv_iadd hx hb (dd_of dL_law_3 11 rfl) ?_
  refine va_sld hx hb hX0 hbl hbA hS hi2 (dd_of dL_law_3 12 rfl) ?_
  rw [ha2]
  refine lv_aload_n hx hb (dd_of dL_law_3 13 rfl) rfl (lv_at hl 1 rfl) ?_
  have hq := qL_pour l hl9 D yy oa h0 an O B B2 F G F2 G2 M (mW yy A FM GM ++ []) H.size a1 a2 hok hcod
  refine js_i (As := [.ref h0, .int a1, .int a2, .ref oa]) (rest := []) (D := D) (yy := yy) (w := (kW yy oa O (pV yy h0 an B B2 F G F2 G2 M) (mW yy A FM GM) sa L xs)) (w1 := fun u : (((Nat → Nat) × jS) × jF) × (Nat → Int64) => kW yy oa u.2 (pV yy h0 an u.1.1.1 B2 u.1.1.2.1 u.1.1.2.2 F2 G2 u.1.2) (mW yy A FM GM) sa L xs) ⟨hx, hb, hml, hown, hts⟩ hq (vx_cwSW 4 hts (jgW gw621 gw622 gw173 gw623) rfl rfl rfl (by decide +kernel) ⟨Nat.le_of_ble_eq_true rfl, Nat.le_of_ble_eq_true rfl⟩) hV hK hT hN hD hS hA rfl hl.1 rfl (Nat.le_of_ble_eq_true rfl) (dd_of dL_law_3 14 rfl) hf (fun x5 u H locs hp hV hD hS => ?_)
  obtain ⟨⟨⟨B1, F1, G1⟩, M1⟩, O1⟩ := u
  obtain ⟨hp, hB1⟩ := hp
  have hB1 : ∀ k, k < 100 → B1 k = B k := hB1
  have hp : ((∃ x, (gX11_pour F G M a1 a2) = (0, (x, ((F1, G1), M1))) ∧ x5 = 0 ∧ O1 = vp_updL O 0 (x)) ∨ ((gX11_pour F G M a1 a2).1 ≠ 0 ∧ x5 = wk 1 2 9 (gX11_pour F G M a1 a2).1 ∧ (((B1, (F1, G1)), M1), O1) = (((B, (F, G)), M), O))) := hp
  have hV : va_P D vwCl (kW yy oa O1 (pV yy h0 an B1 B2 F1 G1 F2 G2 M1) (mW yy A FM GM) sa L xs) H := hV
  have hD : va_D Z (kW yy oa O1 (pV yy h0 an B1 B2 F1 G1 F2 G2 M1) (mW yy A FM GM) sa L xs) := hD
  have hk5 : x5 = wk 1 2 9 (gX11_pour F G M a1 a2).1 := by
    rcases hp with ⟨x, h1, h2, _⟩ | ⟨_, h2, _⟩
    · rw [h2, h1]; rfl
    · exact h2
  refine lv_istore (lv' := [(5, .int x5), (4, .int i), (3, .ref oa), (2, .ref (A 99)), (1, .ref h0), (0, .ref sa)]) hx hb (dd_of dL_law_3 15 rfl) hl (by decide) rfl (fun ls hl => ?_)
  refine lv_aload_n hx hb (dd_of dL_law_3 16 rfl) rfl (lv_at hl 3 rfl) ?_
  refine lv_aload_n hx hb (dd_of dL_law_3 17 rfl) rfl (lv_at hl 5 rfl) ?_
  refine lv_iload hx hb (dd_of dL_law_3 18 rfl) (lv_at hl 1 rfl) ?_
  refine lv_iconst (v := 1) hx hb (dd_of dL_law_3 19 rfl) (by decide) ?_
  refine lv_iadd hx hb (dd_of dL_law_3 20 rfl) ?_
  refine va_sld hx hb hX0 hbl hbA hS hi1 (dd_of dL_law_3 21 rfl) ?_
  rw [ha1]
  refine lv_aload_n hx hb (dd_of dL_law_3 22 rfl) rfl (lv_at hl 5 rfl) ?_
  refine lv_iload hx hb (dd_of dL_law_3 23 rfl) (lv_at hl 1 rfl) ?_
  refine lv_iconst (v := 2) hx hb (dd_of dL_law_3 24 rfl) (by decide) ?_
  refine lv_iadd hx hb (dd_of dL_law_3 25 rfl) ?_
  refine va_sld hx hb hX0 hbl hbA hS hi2 (dd_of dL_law_3 26 rfl) ?_
  rw [ha2]
  refine jt_l (As := [.int a1, .int a2]) (rest := []) (D := D) (yy := yy) (oa := oa) (O := O1) (P := (pV yy h0 an B1 B2 F1 G1 F2 G2 M1)) (M := mW yy A FM GM) (w1 := fun u : jS => mW yy A u.1 u.2) ⟨hx, hb, hml, hown, hts⟩ (qX12_pour l D yy A FM GM H.size a1 a2 hok12) (cwV 2 hts (jgV gw629 gw630 gw631 gw5 gw632) rfl rfl rfl (by decide +kernel) ⟨Nat.le_of_ble_eq_true rfl, Nat.le_of_ble_eq_true rfl⟩) hV hK hD hS hA (va_recv hK (kW_M hV) (ci := 12) (q0 := 0) rfl rfl) rfl hl.1 rfl (Nat.le_of_ble_eq_true rfl) (dd_of dL_law_3 27 rfl) hf (fun x6 u H locs h6 hV hD hS => ?_)
  obtain ⟨FM1, GM1⟩ := u
  have h6 : (x6, (FM1, GM1)) = (gX12_pour FM GM a1 a2) := h6
  have hV : va_P D vwCl (kW yy oa O1 (pV yy h0 an B1 B2 F1 G1 F2 G2 M1) (mW yy A FM1 GM1) sa L xs) H := hV
  have hD : va_D Z (kW yy oa O1 (pV yy h0 an B1 B2 F1 G1 F2 G2 M1) (mW yy A FM1 GM1) sa L xs) := hD
  refine lv_lstore (lv' := [(6, .long x6), (5, .int x5), (4, .int i), (3, .ref oa), (2, .ref (A 99)), (1, .ref h0), (0, .ref sa)]) hx hb (dd_of dL_law_3 28 rfl) hl (by decide) rfl (fun ls hl => ?_)
  refine lv_aload_n hx hb (dd_of dL_law_3 29 rfl) rfl (lv_at hl 4 rfl) ?_
  refine jc_i (As := []) (rest := []) (w := mW yy A FM1 GM1) (D := D) (yy := yy) ⟨hx, hb, hml, hown, hts⟩ (qX12_thrown l D yy A FM1 GM1) (cwV 0 hts (jgV gw594 gw595 gw596 gw5 gw597) rfl rfl rfl (by decide +kernel) ⟨Nat.le_of_ble_eq_true rfl, Nat.le_of_ble_eq_true rfl⟩) (kW_M hV) hK (va_recv hK (kW_M hV) (ci := 12) (q0 := 0) rfl rfl) rfl hl.1 rfl (Nat.le_of_ble_eq_true rfl) (dd_of dL_law_3 30 rfl) hf (fun x7 e7 => ?_)
  refine lv_iload hx hb (dd_of dL_law_3 31 rfl) (lv_at hl 1 rfl) ?_
  refine lv_icmp_eq (tgt := 388) hx hb (dd_of dL_law_3 32 rfl) (by decide) (fun c7 => ?_) (fun c7 => absurd (e7.trans ((hth _ _ _ h6).trans hk5.symm)) c7)
  have how : ((∃ x, (gX11_pour F G M a1 a2) = (0, (x, ((F1, G1), M1)))) ∨ ((gX11_pour F G M a1 a2).1 ≠ 0 ∧ B1 = B ∧ F1 = F ∧ G1 = G ∧ M1 = M)) := by
    rcases hp with ⟨x, h1, _, _⟩ | ⟨h1, _, h2⟩
    · exact Or.inl ⟨x, h1⟩
    · simp only [Prod.mk.injEq] at h2
      exact Or.inr ⟨h1, h2.1.1.1, h2.1.1.2.1, h2.1.1.2.2, h2.1.2⟩
  refine lv_iload hx hb (dd_of dL_law_3 35 rfl) (lv_at hl 1 rfl) ?_
  refine lv_if_ne (tgt := 404) hx hb (dd_of dL_law_3 36 rfl) (by decide) (fun c8 => ?_) (fun c8 => ?_)
  · skip
    refine lv_goto (tgt := 2515) hx hb (dd_of dL_law_4 5 rfl) (by decide) ?_
    exact kk B1 F1 G1 M1 x6 FM1 GM1 O1 H locs ls how hB1 h6 hV hD hS (lv_sub hl [2, 3, 4, 5, 6] rfl)
  · skip
    have hO := kW_O hV
    have h9 : O1 0 = x6 := by
      rcases hp with ⟨x, h1, _, h2⟩ | ⟨h1, h2, _⟩
      · rw [h2]; exact hval _ _ _ _ h1 h6
      · exfalso; rw [h2] at c8; rcases hcod with hq | hq | hq <;> first | exact h1 hq | (rw [hq] at c8; exact absurd c8 (by decide))
    refine lv_aload_n hx hb (dd_of dL_law_3 37 rfl) rfl (lv_at hl 3 rfl) ?_
    refine lv_iconst (v := 0) hx hb (dd_of dL_law_3 38 rfl) (by decide) ?_
    refine va_lald hx hb hK hO 0 1 rfl rfl (vin_lit (by decide)) (dd_of dL_law_3 39 rfl) ?_
    refine lv_lload hx hb (dd_of dL_law_4 0 rfl) (lv_at hl 0 rfl) ?_
    refine jl_eq (tgt := 404) hx hb (dd_of dL_law_4 1 rfl) (dd_of dL_law_4 2 rfl) (by decide) (fun c10 => ?_) (fun c10 => absurd h9 c10)
    refine lv_goto (tgt := 2515) hx hb (dd_of dL_law_4 5 rfl) (by decide) ?_
    exact kk B1 F1 G1 M1 x6 FM1 GM1 O1 H locs ls how hB1 h6 hV hD hS (lv_sub hl [2, 3, 4, 5, 6] rfl)
set_option maxHeartbeats 4000000 in
set_option maxRecDepth 100000 in
theorem cs_road {p : Program} {l : Launch} {e : Env} {s : State} {m : MethodId} {args : Array Value} {below : List Frame} {meth : Method} {c : Code} {H : Heap} {locs : List Loc} {cells slots : Nat} {Q : State → Prop} {ls : Array Slot} {c0 : Cond} {D : va_G} {yy : Nat → ClassId} {Z : Nat → Prop} (hl9 : l.stackTraces = false) (oa h0 an sa L : Nat) (i : Int32) (xs : Nat → Int32) (O : Nat → Int64) (A B B2 : Nat → Nat) (F : jF) (G : jG) (F2 : jF) (G2 : jG) (M FM : jF) (GM : jG) (a1 : Int32) (hi1 : vp_in (i + 1) L) (ha1 : xs (Int32.toNatClampNeg (i + 1)) = a1) (a2 : Int32) (hi2 : vp_in (i + 2) L) (ha2 : xs (Int32.toNatClampNeg (i + 2)) = a2) (a3 : Int32) (hi3 : vp_in (i + 3) L) (ha3 : xs (Int32.toNatClampNeg (i + 3)) = a3) (hok : okX11_road F G M a1 a2 (if a3 = 0 then (0 : Int32) else 1)) (hcod : (gX11_road F G M a1 a2 (if a3 = 0 then (0 : Int32) else 1)).1 = 0 ∨ (gX11_road F G M a1 a2 (if a3 = 0 then (0 : Int32) else 1)).1 = 1 ∨ (gX11_road F G M a1 a2 (if a3 = 0 then (0 : Int32) else 1)).1 = 2) (hok12 : okX12_road FM GM a1 a2 (if a3 = 0 then (0 : Int32) else 1)) (hth : ∀ (x6 : Int32) (FM1 : jF) (GM1 : jG), (x6, (FM1, GM1)) = (gX12_road FM GM a1 a2 (if a3 = 0 then (0 : Int32) else 1)) → gX12_thrown FM1 GM1 = wk 1 2 9 (gX11_road F G M a1 a2 (if a3 = 0 then (0 : Int32) else 1)).1) (hval : ∀ x st x6 st6, (gX11_road F G M a1 a2 (if a3 = 0 then (0 : Int32) else 1)) = (0, (x, st)) → (x6, st6) = (gX12_road FM GM a1 a2 (if a3 = 0 then (0 : Int32) else 1)) → (if x = 0 then (0 : Int64) else 1) = (if x6 = 0 then (0 : Int64) else 1)) (hx : p.tables.exec = Jvm.exec) (hb : c.code = cL_law) (hml : c.maxLocals = 8) (hown : s.vm.findClass RL = some m.cls) (hts : ∀ w ∈ c0 :: wsL_law, w.before args s = true) (hV : va_P D vwCl (kW yy oa O (pV yy h0 an B B2 F G F2 G2 M) (mW yy A FM GM) sa L xs) H) (hK : va_K D vwCl (jT yy) s) (hT : jTP Z s) (hN : jNc s) (hD : va_D Z (kW yy oa O (pV yy h0 an B B2 F G F2 G2 M) (mW yy A FM GM) sa L xs)) (hS : va_S Z s.heap H locs) (hA : ∀ q, s.heap.size ≤ q → Z q) (hX0 : va_X sa L xs s s.heap) (hbl : sa < s.heap.size) (hbA : ¬ Z sa) (hl : lv_has ls 8 [(4, .int i), (3, .ref oa), (2, .ref (A 99)), (1, .ref h0), (0, .ref sa)]) (hf : cells + 9 ≤ rmLaw.cells ∧ slots + 64 ≤ rmLaw.slots)
    (kk : ∀ (B1 : Nat → Nat) (F1 : jF) (G1 : jG) (M1 : jF) (x6 : Int32) (FM1 : jF) (GM1 : jG) (O1 : Nat → Int64) (H : Heap) (locs : List Loc) (ls : Array Slot), ((∃ x, (gX11_road F G M a1 a2 (if a3 = 0 then (0 : Int32) else 1)) = (0, (x, ((F1, G1), M1)))) ∨ ((gX11_road F G M a1 a2 (if a3 = 0 then (0 : Int32) else 1)).1 ≠ 0 ∧ B1 = B ∧ F1 = F ∧ G1 = G ∧ M1 = M)) → (∀ k, k < 100 → B1 k = B k) → (x6, (FM1, GM1)) = (gX12_road FM GM a1 a2 (if a3 = 0 then (0 : Int32) else 1)) → va_P D vwCl (kW yy oa O1 (pV yy h0 an B1 B2 F1 G1 F2 G2 M1) (mW yy A FM1 GM1) sa L xs) H → va_D Z (kW yy oa O1 (pV yy h0 an B1 B2 F1 G1 F2 G2 M1) (mW yy A FM1 GM1) sa L xs) → va_S Z s.heap H locs → lv_has ls 8 [(4, .int i), (3, .ref oa), (2, .ref (A 99)), (1, .ref h0), (0, .ref sa)] → W p l e rmLaw s m args below meth c H locs (cells + 9) (slots + 64) Q (F0 m 2515 ls [])) : W p l e rmLaw s m args below meth c H locs cells slots Q (F0 m 407 ls []) := by
  refine lv_aload_n hx hb (dd_of dL_law_4 6 rfl) rfl (lv_at hl 3 rfl) ?_
  refine lv_aload_n hx hb (dd_of dL_law_4 7 rfl) rfl (lv_at hl 4 rfl) ?_
  refine lv_iload hx hb (dd_of dL_law_4 8 rfl) (lv_at hl 0 rfl) ?_
  refine lv_iconst (v := 1) hx hb (dd_of dL_law_4 9 rfl) (by decide) ?_
  refine lv_iadd hx hb (dd_of dL_law_4 10 rfl) ?_
  refine va_sld hx hb hX0 hbl hbA hS hi1 (dd_of dL_law_4 11 rfl) ?_
  rw [ha1]
  refine lv_aload_n hx hb (dd_of dL_law_4 12 rfl) rfl (lv_at hl 4 rfl) ?_
  refine lv_iload hx hb (dd_of dL_law_4 13 rfl) (lv_at hl 0 rfl) ?_
  refine lv_iconst (v := 2) hx hb (dd_of dL_law_4 14 rfl) (by decide) ?_
  refine lv_iadd hx hb (dd_of dL_law_4 15 rfl) ?_
  refine va_sld hx hb hX0 hbl hbA hS hi2 (dd_of dL_law_4 16 rfl) ?_
  rw [ha2]
  refine lv_aload_n hx hb (dd_of dL_law_4 17 rfl) rfl (lv_at hl 4 rfl) ?_
  refine lv_iload hx hb (dd_of dL_law_4 18 rfl) (lv_at hl 0 rfl) ?_
  refine lv_iconst (v := 3) hx hb (dd_of dL_law_4 19 rfl) (by decide) ?_
  refine lv_iadd hx hb (dd_of dL_law_4 20 rfl) ?_
  refine va_sld hx hb hX0 hbl hbA hS hi3 (dd_of dL_law_4 21 rfl) ?_
  rw [ha3]
  refine jn_i (ls := ls) (v := (if a3 = 0 then (0 : Int32) else 1)) 434 [.int a2, .int a1, .ref h0] (fun z9 ez9 => ?_) (fun K9 => ?_)
  rotate_left
  · refine lv_if_eq (tgt := 433) hx hb (dd_of dL_law_4 22 rfl) (by decide) (fun c9 => ?_) (fun c9 => ?_)
    · refine lv_iconst (v := 0) hx hb (dd_of dL_law_4 25 rfl) (by decide) ?_
      exact K9 _ (if_pos c9).symm
    · refine lv_iconst (v := 1) hx hb (dd_of dL_law_4 23 rfl) (by decide) ?_
      refine lv_goto (tgt := 434) hx hb (dd_of dL_law_4 24 rfl) (by decide) ?_
      exact K9 _ (if_neg c9).symm
  subst ez9
  refine lv_aload_n hx hb (dd_of dL_law_4 26 rfl) rfl (lv_at hl 1 rfl) ?_
  have hq := qL_road l hl9 D yy oa h0 an O B B2 F G F2 G2 M (mW yy A FM GM ++ []) H.size a1 a2 (if a3 = 0 then (0 : Int32) else 1) hok hcod
  refine js_i (As := [.ref h0, .int a1, .int a2, .int (if a3 = 0 then (0 : Int32) else 1), .ref oa]) (rest := []) (D := D) (yy := yy) (w := (kW yy oa O (pV yy h0 an B B2 F G F2 G2 M) (mW yy A FM GM) sa L xs)) (w1 := fun u : (((Nat → Nat) × jS) × jF) × (Nat → Int64) => kW yy oa u.2 (pV yy h0 an u.1.1.1 B2 u.1.1.2.1 u.1.1.2.2 F2 G2 u.1.2) (mW yy A FM GM) sa L xs) ⟨hx, hb, hml, hown, hts⟩ hq (vx_cwSW 5 hts (jgW gw634 gw635 gw173 gw636) rfl rfl rfl (by decide +kernel) ⟨Nat.le_of_ble_eq_true rfl, Nat.le_of_ble_eq_true rfl⟩) hV hK hT hN hD hS hA rfl hl.1 rfl (Nat.le_of_ble_eq_true rfl) (dd_of dL_law_4 27 rfl) hf (fun x5 u H locs hp hV hD hS => ?_)
  obtain ⟨⟨⟨B1, F1, G1⟩, M1⟩, O1⟩ := u
  obtain ⟨hp, hB1⟩ := hp
  have hB1 : ∀ k, k < 100 → B1 k = B k := hB1
  have hp : ((∃ x, (gX11_road F G M a1 a2 (if a3 = 0 then (0 : Int32) else 1)) = (0, (x, ((F1, G1), M1))) ∧ x5 = 0 ∧ O1 = vp_updL O 0 ((if x = 0 then (0 : Int64) else 1))) ∨ ((gX11_road F G M a1 a2 (if a3 = 0 then (0 : Int32) else 1)).1 ≠ 0 ∧ x5 = wk 1 2 9 (gX11_road F G M a1 a2 (if a3 = 0 then (0 : Int32) else 1)).1 ∧ (((B1, (F1, G1)), M1), O1) = (((B, (F, G)), M), O))) := hp
  have hV : va_P D vwCl (kW yy oa O1 (pV yy h0 an B1 B2 F1 G1 F2 G2 M1) (mW yy A FM GM) sa L xs) H := hV
  have hD : va_D Z (kW yy oa O1 (pV yy h0 an B1 B2 F1 G1 F2 G2 M1) (mW yy A FM GM) sa L xs) := hD
  have hk5 : x5 = wk 1 2 9 (gX11_road F G M a1 a2 (if a3 = 0 then (0 : Int32) else 1)).1 := by
    rcases hp with ⟨x, h1, h2, _⟩ | ⟨_, h2, _⟩
    · rw [h2, h1]; rfl
    · exact h2
  refine lv_istore (lv' := [(5, .int x5), (4, .int i), (3, .ref oa), (2, .ref (A 99)), (1, .ref h0), (0, .ref sa)]) hx hb (dd_of dL_law_4 28 rfl) hl (by decide) rfl (fun ls hl => ?_)
  refine lv_aload_n hx hb (dd_of dL_law_4 29 rfl) rfl (lv_at hl 3 rfl) ?_
  refine lv_aload_n hx hb (dd_of dL_law_4 30 rfl) rfl (lv_at hl 5 rfl) ?_
  refine lv_iload hx hb (dd_of dL_law_4 31 rfl) (lv_at hl 1 rfl) ?_
  refine lv_iconst (v := 1) hx hb (dd_of dL_law_4 32 rfl) (by decide) ?_
  refine lv_iadd hx hb (dd_of dL_law_4 33 rfl) ?_
  refine va_sld hx hb hX0 hbl hbA hS hi1 (dd_of dL_law_4 34 rfl) ?_
  rw [ha1]
  refine lv_aload_n hx hb (dd_of dL_law_4 35 rfl) rfl (lv_at hl 5 rfl) ?_
  refine lv_iload hx hb (dd_of dL_law_4 36 rfl) (lv_at hl 1 rfl) ?_
  refine lv_iconst (v := 2) hx hb (dd_of dL_law_4 37 rfl) (by decide) ?_
  refine lv_iadd hx hb (dd_of dL_law_4 38 rfl) ?_
  refine va_sld hx hb hX0 hbl hbA hS hi2 (dd_of dL_law_4 39 rfl) ?_
  rw [ha2]
  refine lv_aload_n hx hb (dd_of dL_law_5 0 rfl) rfl (lv_at hl 5 rfl) ?_
  refine lv_iload hx hb (dd_of dL_law_5 1 rfl) (lv_at hl 1 rfl) ?_
  refine lv_iconst (v := 3) hx hb (dd_of dL_law_5 2 rfl) (by decide) ?_
  refine lv_iadd hx hb (dd_of dL_law_5 3 rfl) ?_
  refine va_sld hx hb hX0 hbl hbA hS hi3 (dd_of dL_law_5 4 rfl) ?_
  rw [ha3]
  refine jn_i (ls := ls) (v := (if a3 = 0 then (0 : Int32) else 1)) 467 [.int a2, .int a1, .ref (A 99)] (fun z9 ez9 => ?_) (fun K9 => ?_)
  rotate_left
  · refine lv_if_eq (tgt := 466) hx hb (dd_of dL_law_5 5 rfl) (by decide) (fun c9 => ?_) (fun c9 => ?_)
    · refine lv_iconst (v := 0) hx hb (dd_of dL_law_5 8 rfl) (by decide) ?_
      exact K9 _ (if_pos c9).symm
    · refine lv_iconst (v := 1) hx hb (dd_of dL_law_5 6 rfl) (by decide) ?_
      refine lv_goto (tgt := 467) hx hb (dd_of dL_law_5 7 rfl) (by decide) ?_
      exact K9 _ (if_neg c9).symm
  subst ez9
  refine jt_i (As := [.int a1, .int a2, .int (if a3 = 0 then (0 : Int32) else 1)]) (rest := []) (D := D) (yy := yy) (oa := oa) (O := O1) (P := (pV yy h0 an B1 B2 F1 G1 F2 G2 M1)) (M := mW yy A FM GM) (w1 := fun u : jS => mW yy A u.1 u.2) ⟨hx, hb, hml, hown, hts⟩ (qX12_road l D yy A FM GM H.size a1 a2 (if a3 = 0 then (0 : Int32) else 1) hok12) (cwV 3 hts (jgV gw645 gw646 gw647 gw5 gw648) rfl rfl rfl (by decide +kernel) ⟨Nat.le_of_ble_eq_true rfl, Nat.le_of_ble_eq_true rfl⟩) hV hK hD hS hA (va_recv hK (kW_M hV) (ci := 12) (q0 := 0) rfl rfl) rfl hl.1 rfl (Nat.le_of_ble_eq_true rfl) (dd_of dL_law_5 9 rfl) hf (fun x6 u H locs h6 hV hD hS => ?_)
  obtain ⟨FM1, GM1⟩ := u
  have h6 : (x6, (FM1, GM1)) = (gX12_road FM GM a1 a2 (if a3 = 0 then (0 : Int32) else 1)) := h6
  have hV : va_P D vwCl (kW yy oa O1 (pV yy h0 an B1 B2 F1 G1 F2 G2 M1) (mW yy A FM1 GM1) sa L xs) H := hV
  have hD : va_D Z (kW yy oa O1 (pV yy h0 an B1 B2 F1 G1 F2 G2 M1) (mW yy A FM1 GM1) sa L xs) := hD
  refine lv_istore (lv' := [(6, .int x6), (5, .int x5), (4, .int i), (3, .ref oa), (2, .ref (A 99)), (1, .ref h0), (0, .ref sa)]) hx hb (dd_of dL_law_5 10 rfl) hl (by decide) rfl (fun ls hl => ?_)
  refine lv_aload_n hx hb (dd_of dL_law_5 11 rfl) rfl (lv_at hl 4 rfl) ?_
  refine jc_i (As := []) (rest := []) (w := mW yy A FM1 GM1) (D := D) (yy := yy) ⟨hx, hb, hml, hown, hts⟩ (qX12_thrown l D yy A FM1 GM1) (cwV 0 hts (jgV gw594 gw595 gw596 gw5 gw597) rfl rfl rfl (by decide +kernel) ⟨Nat.le_of_ble_eq_true rfl, Nat.le_of_ble_eq_true rfl⟩) (kW_M hV) hK (va_recv hK (kW_M hV) (ci := 12) (q0 := 0) rfl rfl) rfl hl.1 rfl (Nat.le_of_ble_eq_true rfl) (dd_of dL_law_5 12 rfl) hf (fun x7 e7 => ?_)
  refine lv_iload hx hb (dd_of dL_law_5 13 rfl) (lv_at hl 1 rfl) ?_
  refine lv_icmp_eq (tgt := 483) hx hb (dd_of dL_law_5 14 rfl) (by decide) (fun c7 => ?_) (fun c7 => absurd (e7.trans ((hth _ _ _ h6).trans hk5.symm)) c7)
  have how : ((∃ x, (gX11_road F G M a1 a2 (if a3 = 0 then (0 : Int32) else 1)) = (0, (x, ((F1, G1), M1)))) ∨ ((gX11_road F G M a1 a2 (if a3 = 0 then (0 : Int32) else 1)).1 ≠ 0 ∧ B1 = B ∧ F1 = F ∧ G1 = G ∧ M1 = M)) := by
    rcases hp with ⟨x, h1, _, _⟩ | ⟨h1, _, h2⟩
    · exact Or.inl ⟨x, h1⟩
    · simp only [Prod.mk.injEq] at h2
      exact Or.inr ⟨h1, h2.1.1.1, h2.1.1.2.1, h2.1.1.2.2, h2.1.2⟩
  refine lv_iload hx hb (dd_of dL_law_5 17 rfl) (lv_at hl 1 rfl) ?_
  refine lv_if_ne (tgt := 507) hx hb (dd_of dL_law_5 18 rfl) (by decide) (fun c8 => ?_) (fun c8 => ?_)
  · skip
    refine lv_goto (tgt := 2515) hx hb (dd_of dL_law_5 31 rfl) (by decide) ?_
    exact kk B1 F1 G1 M1 x6 FM1 GM1 O1 H locs ls how hB1 h6 hV hD hS (lv_sub hl [2, 3, 4, 5, 6] rfl)
  · skip
    have hO := kW_O hV
    have h9 : O1 0 = (if x6 = 0 then (0 : Int64) else 1) := by
      rcases hp with ⟨x, h1, _, h2⟩ | ⟨h1, h2, _⟩
      · rw [h2]; exact hval _ _ _ _ h1 h6
      · exfalso; rw [h2] at c8; rcases hcod with hq | hq | hq <;> first | exact h1 hq | (rw [hq] at c8; exact absurd c8 (by decide))
    refine lv_aload_n hx hb (dd_of dL_law_5 19 rfl) rfl (lv_at hl 3 rfl) ?_
    refine lv_iconst (v := 0) hx hb (dd_of dL_law_5 20 rfl) (by decide) ?_
    refine va_lald hx hb hK hO 0 1 rfl rfl (vin_lit (by decide)) (dd_of dL_law_5 21 rfl) ?_
    refine lv_iload hx hb (dd_of dL_law_5 22 rfl) (lv_at hl 0 rfl) ?_
    refine jn_l (ls := ls) (v := (if x6 = 0 then (0 : Int64) else 1)) 501 [.long (O1 0)] (fun z9 ez9 => ?_) (fun K9 => ?_)
    rotate_left
    · refine lv_if_eq (tgt := 500) hx hb (dd_of dL_law_5 23 rfl) (by decide) (fun c9 => ?_) (fun c9 => ?_)
      · refine lv_lconst (v := 0) hx hb (dd_of dL_law_5 26 rfl) (by decide) ?_
        exact K9 _ (if_pos c9).symm
      · refine lv_lconst (v := 1) hx hb (dd_of dL_law_5 24 rfl) (by decide) ?_
        refine lv_goto (tgt := 501) hx hb (dd_of dL_law_5 25 rfl) (by decide) ?_
        exact K9 _ (if_neg c9).symm
    subst ez9
    refine jl_eq (tgt := 507) hx hb (dd_of dL_law_5 27 rfl) (dd_of dL_law_5 28 rfl) (by decide) (fun c10 => ?_) (fun c10 => absurd h9 c10)
    refine lv_goto (tgt := 2515) hx hb (dd_of dL_law_5 31 rfl) (by decide) ?_
    exact kk B1 F1 G1 M1 x6 FM1 GM1 O1 H locs ls how hB1 h6 hV hD hS (lv_sub hl [2, 3, 4, 5, 6] rfl)
set_option maxHeartbeats 4000000 in
set_option maxRecDepth 100000 in
theorem cs_addGate {p : Program} {l : Launch} {e : Env} {s : State} {m : MethodId} {args : Array Value} {below : List Frame} {meth : Method} {c : Code} {H : Heap} {locs : List Loc} {cells slots : Nat} {Q : State → Prop} {ls : Array Slot} {c0 : Cond} {D : va_G} {yy : Nat → ClassId} {Z : Nat → Prop} (hl9 : l.stackTraces = false) (oa h0 an sa L : Nat) (i : Int32) (xs : Nat → Int32) (O : Nat → Int64) (A B B2 : Nat → Nat) (F : jF) (G : jG) (F2 : jF) (G2 : jG) (M FM : jF) (GM : jG) (a1 : Int32) (hi1 : vp_in (i + 1) L) (ha1 : xs (Int32.toNatClampNeg (i + 1)) = a1) (a2 : Int32) (hi2 : vp_in (i + 2) L) (ha2 : xs (Int32.toNatClampNeg (i + 2)) = a2) (a3 : Int32) (hi3 : vp_in (i + 3) L) (ha3 : xs (Int32.toNatClampNeg (i + 3)) = a3) (a4 : Int32) (hi4 : vp_in (i + 4) L) (ha4 : xs (Int32.toNatClampNeg (i + 4)) = a4) (hok : okX11_addGate F G M a1 a2 a3 a4) (hcod : (gX11_addGate F G M a1 a2 a3 a4).1 = 0 ∨ (gX11_addGate F G M a1 a2 a3 a4).1 = 1 ∨ (gX11_addGate F G M a1 a2 a3 a4).1 = 2 ∨ (gX11_addGate F G M a1 a2 a3 a4).1 = 3) (hok12 : okX12_addGate FM GM a1 a2 a3 a4) (hth : ∀ (x6 : Int32) (FM1 : jF) (GM1 : jG), (x6, (FM1, GM1)) = (gX12_addGate FM GM a1 a2 a3 a4) → gX12_thrown FM1 GM1 = wk 1 2 3 (gX11_addGate F G M a1 a2 a3 a4).1) (hval : ∀ x st x6 st6, (gX11_addGate F G M a1 a2 a3 a4) = (0, (x, st)) → (x6, st6) = (gX12_addGate FM GM a1 a2 a3 a4) → Int32.toInt64 x = Int32.toInt64 x6) (hx : p.tables.exec = Jvm.exec) (hb : c.code = cL_law) (hml : c.maxLocals = 8) (hown : s.vm.findClass RL = some m.cls) (hts : ∀ w ∈ c0 :: wsL_law, w.before args s = true) (hV : va_P D vwCl (kW yy oa O (pV yy h0 an B B2 F G F2 G2 M) (mW yy A FM GM) sa L xs) H) (hK : va_K D vwCl (jT yy) s) (hT : jTP Z s) (hN : jNc s) (hD : va_D Z (kW yy oa O (pV yy h0 an B B2 F G F2 G2 M) (mW yy A FM GM) sa L xs)) (hS : va_S Z s.heap H locs) (hA : ∀ q, s.heap.size ≤ q → Z q) (hX0 : va_X sa L xs s s.heap) (hbl : sa < s.heap.size) (hbA : ¬ Z sa) (hl : lv_has ls 8 [(4, .int i), (3, .ref oa), (2, .ref (A 99)), (1, .ref h0), (0, .ref sa)]) (hf : cells + 9 ≤ rmLaw.cells ∧ slots + 64 ≤ rmLaw.slots)
    (kk : ∀ (B1 : Nat → Nat) (F1 : jF) (G1 : jG) (M1 : jF) (x6 : Int32) (FM1 : jF) (GM1 : jG) (O1 : Nat → Int64) (H : Heap) (locs : List Loc) (ls : Array Slot), ((∃ x, (gX11_addGate F G M a1 a2 a3 a4) = (0, (x, ((F1, G1), M1)))) ∨ ((gX11_addGate F G M a1 a2 a3 a4).1 ≠ 0 ∧ B1 = B ∧ F1 = F ∧ G1 = G ∧ M1 = M)) → (∀ k, k < 100 → B1 k = B k) → (x6, (FM1, GM1)) = (gX12_addGate FM GM a1 a2 a3 a4) → va_P D vwCl (kW yy oa O1 (pV yy h0 an B1 B2 F1 G1 F2 G2 M1) (mW yy A FM1 GM1) sa L xs) H → va_D Z (kW yy oa O1 (pV yy h0 an B1 B2 F1 G1 F2 G2 M1) (mW yy A FM1 GM1) sa L xs) → va_S Z s.heap H locs → lv_has ls 8 [(4, .int i), (3, .ref oa), (2, .ref (A 99)), (1, .ref h0), (0, .ref sa)] → W p l e rmLaw s m args below meth c H locs (cells + 9) (slots + 64) Q (F0 m 2515 ls [])) : W p l e rmLaw s m args below meth c H locs cells slots Q (F0 m 510 ls []) := by
  refine lv_aload_n hx hb (dd_of dL_law_5 32 rfl) rfl (lv_at hl 3 rfl) ?_
  refine lv_aload_n hx hb (dd_of dL_law_5 33 rfl) rfl (lv_at hl 4 rfl) ?_
  refine lv_iload hx hb (dd_of dL_law_5 34 rfl) (lv_at hl 0 rfl) ?_
  refine lv_iconst (v := 1) hx hb (dd_of dL_law_5 35 rfl) (by decide) ?_
  refine lv_iadd hx hb (dd_of dL_law_5 36 rfl) ?_
  refine va_sld hx hb hX0 hbl hbA hS hi1 (dd_of dL_law_5 37 rfl) ?_
  rw [ha1]
  refine lv_aload_n hx hb (dd_of dL_law_5 38 rfl) rfl (lv_at hl 4 rfl) ?_
  refine lv_iload hx hb (dd_of dL_law_5 39 rfl) (lv_at hl 0 rfl) ?_
  refine lv_iconst (v := 2) hx hb (dd_of dL_law_6 0 rfl) (by decide) ?_
  refine lv_iadd hx hb (dd_of dL_law_6 1 rfl) ?_
  refine va_sld hx hb hX0 hbl hbA hS hi2 (dd_of dL_law_6 2 rfl) ?_
  rw [ha2]
  refine lv_aload_n hx hb (dd_of dL_law_6 3 rfl) rfl (lv_at hl 4 rfl) ?_
  refine lv_iload hx hb (dd_of dL_law_6 4 rfl) (lv_at hl 0 rfl) ?_
  refine lv_iconst (v := 3) hx hb (dd_of dL_law_6 5 rfl) (by decide) ?_
  refine lv_iadd hx hb (dd_of dL_law_6 6 rfl) ?_
  refine va_sld hx hb hX0 hbl hbA hS hi3 (dd_of dL_law_6 7 rfl) ?_
  rw [ha3]
  refine lv_aload_n hx hb (dd_of dL_law_6 8 rfl) rfl (lv_at hl 4 rfl) ?_
  refine lv_iload hx hb (dd_of dL_law_6 9 rfl) (lv_at hl 0 rfl) ?_
  refine lv_iconst (v := 4) hx hb (dd_of dL_law_6 10 rfl) (by decide) ?_
  refine lv_iadd hx hb (dd_of dL_law_6 11 rfl) ?_
  refine va_sld hx hb hX0 hbl hbA hS hi4 (dd_of dL_law_6 12 rfl) ?_
  rw [ha4]
  refine lv_aload_n hx hb (dd_of dL_law_6 13 rfl) rfl (lv_at hl 1 rfl) ?_
  have hq := qL_addGate l hl9 D yy oa h0 an O B B2 F G F2 G2 M (mW yy A FM GM ++ []) H.size a1 a2 a3 a4 hok hcod
  refine js_i (As := [.ref h0, .int a1, .int a2, .int a3, .int a4, .ref oa]) (rest := []) (D := D) (yy := yy) (w := (kW yy oa O (pV yy h0 an B B2 F G F2 G2 M) (mW yy A FM GM) sa L xs)) (w1 := fun u : (((Nat → Nat) × jS) × jF) × (Nat → Int64) => kW yy oa u.2 (pV yy h0 an u.1.1.1 B2 u.1.1.2.1 u.1.1.2.2 F2 G2 u.1.2) (mW yy A FM GM) sa L xs) ⟨hx, hb, hml, hown, hts⟩ hq (vx_cwSW 6 hts (jgW gw649 gw650 gw173 gw651) rfl rfl rfl (by decide +kernel) ⟨Nat.le_of_ble_eq_true rfl, Nat.le_of_ble_eq_true rfl⟩) hV hK hT hN hD hS hA rfl hl.1 rfl (Nat.le_of_ble_eq_true rfl) (dd_of dL_law_6 14 rfl) hf (fun x5 u H locs hp hV hD hS => ?_)
  obtain ⟨⟨⟨B1, F1, G1⟩, M1⟩, O1⟩ := u
  obtain ⟨hp, hB1⟩ := hp
  have hB1 : ∀ k, k < 100 → B1 k = B k := hB1
  have hp : ((∃ x, (gX11_addGate F G M a1 a2 a3 a4) = (0, (x, ((F1, G1), M1))) ∧ x5 = 0 ∧ O1 = vp_updL O 0 (Int32.toInt64 x)) ∨ ((gX11_addGate F G M a1 a2 a3 a4).1 ≠ 0 ∧ x5 = wk 1 2 3 (gX11_addGate F G M a1 a2 a3 a4).1 ∧ (((B1, (F1, G1)), M1), O1) = (((B, (F, G)), M), O))) := hp
  have hV : va_P D vwCl (kW yy oa O1 (pV yy h0 an B1 B2 F1 G1 F2 G2 M1) (mW yy A FM GM) sa L xs) H := hV
  have hD : va_D Z (kW yy oa O1 (pV yy h0 an B1 B2 F1 G1 F2 G2 M1) (mW yy A FM GM) sa L xs) := hD
  have hk5 : x5 = wk 1 2 3 (gX11_addGate F G M a1 a2 a3 a4).1 := by
    rcases hp with ⟨x, h1, h2, _⟩ | ⟨_, h2, _⟩
    · rw [h2, h1]; rfl
    · exact h2
  refine lv_istore (lv' := [(5, .int x5), (4, .int i), (3, .ref oa), (2, .ref (A 99)), (1, .ref h0), (0, .ref sa)]) hx hb (dd_of dL_law_6 15 rfl) hl (by decide) rfl (fun ls hl => ?_)
  refine lv_aload_n hx hb (dd_of dL_law_6 16 rfl) rfl (lv_at hl 3 rfl) ?_
  refine lv_aload_n hx hb (dd_of dL_law_6 17 rfl) rfl (lv_at hl 5 rfl) ?_
  refine lv_iload hx hb (dd_of dL_law_6 18 rfl) (lv_at hl 1 rfl) ?_
  refine lv_iconst (v := 1) hx hb (dd_of dL_law_6 19 rfl) (by decide) ?_
  refine lv_iadd hx hb (dd_of dL_law_6 20 rfl) ?_
  refine va_sld hx hb hX0 hbl hbA hS hi1 (dd_of dL_law_6 21 rfl) ?_
  rw [ha1]
  refine lv_aload_n hx hb (dd_of dL_law_6 22 rfl) rfl (lv_at hl 5 rfl) ?_
  refine lv_iload hx hb (dd_of dL_law_6 23 rfl) (lv_at hl 1 rfl) ?_
  refine lv_iconst (v := 2) hx hb (dd_of dL_law_6 24 rfl) (by decide) ?_
  refine lv_iadd hx hb (dd_of dL_law_6 25 rfl) ?_
  refine va_sld hx hb hX0 hbl hbA hS hi2 (dd_of dL_law_6 26 rfl) ?_
  rw [ha2]
  refine lv_aload_n hx hb (dd_of dL_law_6 27 rfl) rfl (lv_at hl 5 rfl) ?_
  refine lv_iload hx hb (dd_of dL_law_6 28 rfl) (lv_at hl 1 rfl) ?_
  refine lv_iconst (v := 3) hx hb (dd_of dL_law_6 29 rfl) (by decide) ?_
  refine lv_iadd hx hb (dd_of dL_law_6 30 rfl) ?_
  refine va_sld hx hb hX0 hbl hbA hS hi3 (dd_of dL_law_6 31 rfl) ?_
  rw [ha3]
  refine lv_aload_n hx hb (dd_of dL_law_6 32 rfl) rfl (lv_at hl 5 rfl) ?_
  refine lv_iload hx hb (dd_of dL_law_6 33 rfl) (lv_at hl 1 rfl) ?_
  refine lv_iconst (v := 4) hx hb (dd_of dL_law_6 34 rfl) (by decide) ?_
  refine lv_iadd hx hb (dd_of dL_law_6 35 rfl) ?_
  refine va_sld hx hb hX0 hbl hbA hS hi4 (dd_of dL_law_6 36 rfl) ?_
  rw [ha4]
  refine jt_i (As := [.int a1, .int a2, .int a3, .int a4]) (rest := []) (D := D) (yy := yy) (oa := oa) (O := O1) (P := (pV yy h0 an B1 B2 F1 G1 F2 G2 M1)) (M := mW yy A FM GM) (w1 := fun u : jS => mW yy A u.1 u.2) ⟨hx, hb, hml, hown, hts⟩ (qX12_addGate l D yy A FM GM H.size a1 a2 a3 a4 hok12) (cwV 4 hts (jgV gw669 gw670 gw671 gw5 gw672) rfl rfl rfl (by decide +kernel) ⟨Nat.le_of_ble_eq_true rfl, Nat.le_of_ble_eq_true rfl⟩) hV hK hD hS hA (va_recv hK (kW_M hV) (ci := 12) (q0 := 0) rfl rfl) rfl hl.1 rfl (Nat.le_of_ble_eq_true rfl) (dd_of dL_law_6 37 rfl) hf (fun x6 u H locs h6 hV hD hS => ?_)
  obtain ⟨FM1, GM1⟩ := u
  have h6 : (x6, (FM1, GM1)) = (gX12_addGate FM GM a1 a2 a3 a4) := h6
  have hV : va_P D vwCl (kW yy oa O1 (pV yy h0 an B1 B2 F1 G1 F2 G2 M1) (mW yy A FM1 GM1) sa L xs) H := hV
  have hD : va_D Z (kW yy oa O1 (pV yy h0 an B1 B2 F1 G1 F2 G2 M1) (mW yy A FM1 GM1) sa L xs) := hD
  refine lv_istore (lv' := [(6, .int x6), (5, .int x5), (4, .int i), (3, .ref oa), (2, .ref (A 99)), (1, .ref h0), (0, .ref sa)]) hx hb (dd_of dL_law_6 38 rfl) hl (by decide) rfl (fun ls hl => ?_)
  refine lv_aload_n hx hb (dd_of dL_law_6 39 rfl) rfl (lv_at hl 4 rfl) ?_
  refine jc_i (As := []) (rest := []) (w := mW yy A FM1 GM1) (D := D) (yy := yy) ⟨hx, hb, hml, hown, hts⟩ (qX12_thrown l D yy A FM1 GM1) (cwV 0 hts (jgV gw594 gw595 gw596 gw5 gw597) rfl rfl rfl (by decide +kernel) ⟨Nat.le_of_ble_eq_true rfl, Nat.le_of_ble_eq_true rfl⟩) (kW_M hV) hK (va_recv hK (kW_M hV) (ci := 12) (q0 := 0) rfl rfl) rfl hl.1 rfl (Nat.le_of_ble_eq_true rfl) (dd_of dL_law_7 0 rfl) hf (fun x7 e7 => ?_)
  refine lv_iload hx hb (dd_of dL_law_7 1 rfl) (lv_at hl 1 rfl) ?_
  refine lv_icmp_eq (tgt := 582) hx hb (dd_of dL_law_7 2 rfl) (by decide) (fun c7 => ?_) (fun c7 => absurd (e7.trans ((hth _ _ _ h6).trans hk5.symm)) c7)
  have how : ((∃ x, (gX11_addGate F G M a1 a2 a3 a4) = (0, (x, ((F1, G1), M1)))) ∨ ((gX11_addGate F G M a1 a2 a3 a4).1 ≠ 0 ∧ B1 = B ∧ F1 = F ∧ G1 = G ∧ M1 = M)) := by
    rcases hp with ⟨x, h1, _, _⟩ | ⟨h1, _, h2⟩
    · exact Or.inl ⟨x, h1⟩
    · simp only [Prod.mk.injEq] at h2
      exact Or.inr ⟨h1, h2.1.1.1, h2.1.1.2.1, h2.1.1.2.2, h2.1.2⟩
  refine lv_iload hx hb (dd_of dL_law_7 5 rfl) (lv_at hl 1 rfl) ?_
  refine lv_if_ne (tgt := 599) hx hb (dd_of dL_law_7 6 rfl) (by decide) (fun c8 => ?_) (fun c8 => ?_)
  · skip
    refine lv_goto (tgt := 2515) hx hb (dd_of dL_law_7 16 rfl) (by decide) ?_
    exact kk B1 F1 G1 M1 x6 FM1 GM1 O1 H locs ls how hB1 h6 hV hD hS (lv_sub hl [2, 3, 4, 5, 6] rfl)
  · skip
    have hO := kW_O hV
    have h9 : O1 0 = Int32.toInt64 x6 := by
      rcases hp with ⟨x, h1, _, h2⟩ | ⟨h1, h2, _⟩
      · rw [h2]; exact hval _ _ _ _ h1 h6
      · exfalso; rw [h2] at c8; rcases hcod with hq | hq | hq | hq <;> first | exact h1 hq | (rw [hq] at c8; exact absurd c8 (by decide))
    refine lv_aload_n hx hb (dd_of dL_law_7 7 rfl) rfl (lv_at hl 3 rfl) ?_
    refine lv_iconst (v := 0) hx hb (dd_of dL_law_7 8 rfl) (by decide) ?_
    refine va_lald hx hb hK hO 0 1 rfl rfl (vin_lit (by decide)) (dd_of dL_law_7 9 rfl) ?_
    refine lv_iload hx hb (dd_of dL_law_7 10 rfl) (lv_at hl 0 rfl) ?_
    refine lv_i2l (v := Int32.toInt64 x6) hx hb (dd_of dL_law_7 11 rfl) rfl ?_
    refine jl_eq (tgt := 599) hx hb (dd_of dL_law_7 12 rfl) (dd_of dL_law_7 13 rfl) (by decide) (fun c10 => ?_) (fun c10 => absurd h9 c10)
    refine lv_goto (tgt := 2515) hx hb (dd_of dL_law_7 16 rfl) (by decide) ?_
    exact kk B1 F1 G1 M1 x6 FM1 GM1 O1 H locs ls how hB1 h6 hV hD hS (lv_sub hl [2, 3, 4, 5, 6] rfl)
set_option maxHeartbeats 4000000 in
set_option maxRecDepth 100000 in
theorem cs_addPump {p : Program} {l : Launch} {e : Env} {s : State} {m : MethodId} {args : Array Value} {below : List Frame} {meth : Method} {c : Code} {H : Heap} {locs : List Loc} {cells slots : Nat} {Q : State → Prop} {ls : Array Slot} {c0 : Cond} {D : va_G} {yy : Nat → ClassId} {Z : Nat → Prop} (hl9 : l.stackTraces = false) (oa h0 an sa L : Nat) (i : Int32) (xs : Nat → Int32) (O : Nat → Int64) (A B B2 : Nat → Nat) (F : jF) (G : jG) (F2 : jF) (G2 : jG) (M FM : jF) (GM : jG) (a1 : Int32) (hi1 : vp_in (i + 1) L) (ha1 : xs (Int32.toNatClampNeg (i + 1)) = a1) (a2 : Int32) (hi2 : vp_in (i + 2) L) (ha2 : xs (Int32.toNatClampNeg (i + 2)) = a2) (a3 : Int32) (hi3 : vp_in (i + 3) L) (ha3 : xs (Int32.toNatClampNeg (i + 3)) = a3) (a4 : Int32) (hi4 : vp_in (i + 4) L) (ha4 : xs (Int32.toNatClampNeg (i + 4)) = a4) (a5 : Int32) (hi5 : vp_in (i + 5) L) (ha5 : xs (Int32.toNatClampNeg (i + 5)) = a5) (hok : okX11_addPump F G M a1 a2 a3 a4 a5) (hcod : (gX11_addPump F G M a1 a2 a3 a4 a5).1 = 0 ∨ (gX11_addPump F G M a1 a2 a3 a4 a5).1 = 1 ∨ (gX11_addPump F G M a1 a2 a3 a4 a5).1 = 2 ∨ (gX11_addPump F G M a1 a2 a3 a4 a5).1 = 3) (hok12 : okX12_addPump FM GM a1 a2 a3 a4 a5) (hth : ∀ (x6 : Int32) (FM1 : jF) (GM1 : jG), (x6, (FM1, GM1)) = (gX12_addPump FM GM a1 a2 a3 a4 a5) → gX12_thrown FM1 GM1 = wk 1 2 3 (gX11_addPump F G M a1 a2 a3 a4 a5).1) (hval : ∀ x st x6 st6, (gX11_addPump F G M a1 a2 a3 a4 a5) = (0, (x, st)) → (x6, st6) = (gX12_addPump FM GM a1 a2 a3 a4 a5) → Int32.toInt64 x = Int32.toInt64 x6) (hx : p.tables.exec = Jvm.exec) (hb : c.code = cL_law) (hml : c.maxLocals = 8) (hown : s.vm.findClass RL = some m.cls) (hts : ∀ w ∈ c0 :: wsL_law, w.before args s = true) (hV : va_P D vwCl (kW yy oa O (pV yy h0 an B B2 F G F2 G2 M) (mW yy A FM GM) sa L xs) H) (hK : va_K D vwCl (jT yy) s) (hT : jTP Z s) (hN : jNc s) (hD : va_D Z (kW yy oa O (pV yy h0 an B B2 F G F2 G2 M) (mW yy A FM GM) sa L xs)) (hS : va_S Z s.heap H locs) (hA : ∀ q, s.heap.size ≤ q → Z q) (hX0 : va_X sa L xs s s.heap) (hbl : sa < s.heap.size) (hbA : ¬ Z sa) (hl : lv_has ls 8 [(4, .int i), (3, .ref oa), (2, .ref (A 99)), (1, .ref h0), (0, .ref sa)]) (hf : cells + 9 ≤ rmLaw.cells ∧ slots + 64 ≤ rmLaw.slots)
    (kk : ∀ (B1 : Nat → Nat) (F1 : jF) (G1 : jG) (M1 : jF) (x6 : Int32) (FM1 : jF) (GM1 : jG) (O1 : Nat → Int64) (H : Heap) (locs : List Loc) (ls : Array Slot), ((∃ x, (gX11_addPump F G M a1 a2 a3 a4 a5) = (0, (x, ((F1, G1), M1)))) ∨ ((gX11_addPump F G M a1 a2 a3 a4 a5).1 ≠ 0 ∧ B1 = B ∧ F1 = F ∧ G1 = G ∧ M1 = M)) → (∀ k, k < 100 → B1 k = B k) → (x6, (FM1, GM1)) = (gX12_addPump FM GM a1 a2 a3 a4 a5) → va_P D vwCl (kW yy oa O1 (pV yy h0 an B1 B2 F1 G1 F2 G2 M1) (mW yy A FM1 GM1) sa L xs) H → va_D Z (kW yy oa O1 (pV yy h0 an B1 B2 F1 G1 F2 G2 M1) (mW yy A FM1 GM1) sa L xs) → va_S Z s.heap H locs → lv_has ls 8 [(4, .int i), (3, .ref oa), (2, .ref (A 99)), (1, .ref h0), (0, .ref sa)] → W p l e rmLaw s m args below meth c H locs (cells + 9) (slots + 64) Q (F0 m 2515 ls [])) : W p l e rmLaw s m args below meth c H locs cells slots Q (F0 m 602 ls []) := by
  refine lv_aload_n hx hb (dd_of dL_law_7 17 rfl) rfl (lv_at hl 3 rfl) ?_
  refine lv_aload_n hx hb (dd_of dL_law_7 18 rfl) rfl (lv_at hl 4 rfl) ?_
  refine lv_iload hx hb (dd_of dL_law_7 19 rfl) (lv_at hl 0 rfl) ?_
  refine lv_iconst (v := 1) hx hb (dd_of dL_law_7 20 rfl) (by decide) ?_
  refine lv_iadd hx hb (dd_of dL_law_7 21 rfl) ?_
  refine va_sld hx hb hX0 hbl hbA hS hi1 (dd_of dL_law_7 22 rfl) ?_
  rw [ha1]
  refine lv_aload_n hx hb (dd_of dL_law_7 23 rfl) rfl (lv_at hl 4 rfl) ?_
  refine lv_iload hx hb (dd_of dL_law_7 24 rfl) (lv_at hl 0 rfl) ?_
  refine lv_iconst (v := 2) hx hb (dd_of dL_law_7 25 rfl) (by decide) ?_
  refine lv_iadd hx hb (dd_of dL_law_7 26 rfl) ?_
  refine va_sld hx hb hX0 hbl hbA hS hi2 (dd_of dL_law_7 27 rfl) ?_
  rw [ha2]
  refine lv_aload_n hx hb (dd_of dL_law_7 28 rfl) rfl (lv_at hl 4 rfl) ?_
  refine lv_iload hx hb (dd_of dL_law_7 29 rfl) (lv_at hl 0 rfl) ?_
  refine lv_iconst (v := 3) hx hb (dd_of dL_law_7 30 rfl) (by decide) ?_
  refine lv_iadd hx hb (dd_of dL_law_7 31 rfl) ?_
  refine va_sld hx hb hX0 hbl hbA hS hi3 (dd_of dL_law_7 32 rfl) ?_
  rw [ha3]
  refine lv_aload_n hx hb (dd_of dL_law_7 33 rfl) rfl (lv_at hl 4 rfl) ?_
  refine lv_iload hx hb (dd_of dL_law_7 34 rfl) (lv_at hl 0 rfl) ?_
  refine lv_iconst (v := 4) hx hb (dd_of dL_law_7 35 rfl) (by decide) ?_
  refine lv_iadd hx hb (dd_of dL_law_7 36 rfl) ?_
  refine va_sld hx hb hX0 hbl hbA hS hi4 (dd_of dL_law_7 37 rfl) ?_
  rw [ha4]
  refine lv_aload_n hx hb (dd_of dL_law_7 38 rfl) rfl (lv_at hl 4 rfl) ?_
  refine lv_iload hx hb (dd_of dL_law_7 39 rfl) (lv_at hl 0 rfl) ?_
  refine lv_iconst (v := 5) hx hb (dd_of dL_law_8 0 rfl) (by decide) ?_
  refine lv_iadd hx hb (dd_of dL_law_8 1 rfl) ?_
  refine va_sld hx hb hX0 hbl hbA hS hi5 (dd_of dL_law_8 2 rfl) ?_
  rw [ha5]
  refine lv_aload_n hx hb (dd_of dL_law_8 3 rfl) rfl (lv_at hl 1 rfl) ?_
  have hq := qL_addPump l hl9 D yy oa h0 an O B B2 F G F2 G2 M (mW yy A FM GM ++ []) H.size a1 a2 a3 a4 a5 hok hcod
  refine js_i (As := [.ref h0, .int a1, .int a2, .int a3, .int a4, .int a5, .ref oa]) (rest := []) (D := D) (yy := yy) (w := (kW yy oa O (pV yy h0 an B B2 F G F2 G2 M) (mW yy A FM GM) sa L xs)) (w1 := fun u : (((Nat → Nat) × jS) × jF) × (Nat → Int64) => kW yy oa u.2 (pV yy h0 an u.1.1.1 B2 u.1.1.2.1 u.1.1.2.2 F2 G2 u.1.2) (mW yy A FM GM) sa L xs) ⟨hx, hb, hml, hown, hts⟩ hq (vx_cwSW 7 hts (jgW gw682 gw683 gw173 gw684) rfl rfl rfl (by decide +kernel) ⟨Nat.le_of_ble_eq_true rfl, Nat.le_of_ble_eq_true rfl⟩) hV hK hT hN hD hS hA rfl hl.1 rfl (Nat.le_of_ble_eq_true rfl) (dd_of dL_law_8 4 rfl) hf (fun x5 u H locs hp hV hD hS => ?_)
  obtain ⟨⟨⟨B1, F1, G1⟩, M1⟩, O1⟩ := u
  obtain ⟨hp, hB1⟩ := hp
  have hB1 : ∀ k, k < 100 → B1 k = B k := hB1
  have hp : ((∃ x, (gX11_addPump F G M a1 a2 a3 a4 a5) = (0, (x, ((F1, G1), M1))) ∧ x5 = 0 ∧ O1 = vp_updL O 0 (Int32.toInt64 x)) ∨ ((gX11_addPump F G M a1 a2 a3 a4 a5).1 ≠ 0 ∧ x5 = wk 1 2 3 (gX11_addPump F G M a1 a2 a3 a4 a5).1 ∧ (((B1, (F1, G1)), M1), O1) = (((B, (F, G)), M), O))) := hp
  have hV : va_P D vwCl (kW yy oa O1 (pV yy h0 an B1 B2 F1 G1 F2 G2 M1) (mW yy A FM GM) sa L xs) H := hV
  have hD : va_D Z (kW yy oa O1 (pV yy h0 an B1 B2 F1 G1 F2 G2 M1) (mW yy A FM GM) sa L xs) := hD
  have hk5 : x5 = wk 1 2 3 (gX11_addPump F G M a1 a2 a3 a4 a5).1 := by
    rcases hp with ⟨x, h1, h2, _⟩ | ⟨_, h2, _⟩
    · rw [h2, h1]; rfl
    · exact h2
  refine lv_istore (lv' := [(5, .int x5), (4, .int i), (3, .ref oa), (2, .ref (A 99)), (1, .ref h0), (0, .ref sa)]) hx hb (dd_of dL_law_8 5 rfl) hl (by decide) rfl (fun ls hl => ?_)
  refine lv_aload_n hx hb (dd_of dL_law_8 6 rfl) rfl (lv_at hl 3 rfl) ?_
  refine lv_aload_n hx hb (dd_of dL_law_8 7 rfl) rfl (lv_at hl 5 rfl) ?_
  refine lv_iload hx hb (dd_of dL_law_8 8 rfl) (lv_at hl 1 rfl) ?_
  refine lv_iconst (v := 1) hx hb (dd_of dL_law_8 9 rfl) (by decide) ?_
  refine lv_iadd hx hb (dd_of dL_law_8 10 rfl) ?_
  refine va_sld hx hb hX0 hbl hbA hS hi1 (dd_of dL_law_8 11 rfl) ?_
  rw [ha1]
  refine lv_aload_n hx hb (dd_of dL_law_8 12 rfl) rfl (lv_at hl 5 rfl) ?_
  refine lv_iload hx hb (dd_of dL_law_8 13 rfl) (lv_at hl 1 rfl) ?_
  refine lv_iconst (v := 2) hx hb (dd_of dL_law_8 14 rfl) (by decide) ?_
  refine lv_iadd hx hb (dd_of dL_law_8 15 rfl) ?_
  refine va_sld hx hb hX0 hbl hbA hS hi2 (dd_of dL_law_8 16 rfl) ?_
  rw [ha2]
  refine lv_aload_n hx hb (dd_of dL_law_8 17 rfl) rfl (lv_at hl 5 rfl) ?_
  refine lv_iload hx hb (dd_of dL_law_8 18 rfl) (lv_at hl 1 rfl) ?_
  refine lv_iconst (v := 3) hx hb (dd_of dL_law_8 19 rfl) (by decide) ?_
  refine lv_iadd hx hb (dd_of dL_law_8 20 rfl) ?_
  refine va_sld hx hb hX0 hbl hbA hS hi3 (dd_of dL_law_8 21 rfl) ?_
  rw [ha3]
  refine lv_aload_n hx hb (dd_of dL_law_8 22 rfl) rfl (lv_at hl 5 rfl) ?_
  refine lv_iload hx hb (dd_of dL_law_8 23 rfl) (lv_at hl 1 rfl) ?_
  refine lv_iconst (v := 4) hx hb (dd_of dL_law_8 24 rfl) (by decide) ?_
  refine lv_iadd hx hb (dd_of dL_law_8 25 rfl) ?_
  refine va_sld hx hb hX0 hbl hbA hS hi4 (dd_of dL_law_8 26 rfl) ?_
  rw [ha4]
  refine lv_aload_n hx hb (dd_of dL_law_8 27 rfl) rfl (lv_at hl 5 rfl) ?_
  refine lv_iload hx hb (dd_of dL_law_8 28 rfl) (lv_at hl 1 rfl) ?_
  refine lv_iconst (v := 5) hx hb (dd_of dL_law_8 29 rfl) (by decide) ?_
  refine lv_iadd hx hb (dd_of dL_law_8 30 rfl) ?_
  refine va_sld hx hb hX0 hbl hbA hS hi5 (dd_of dL_law_8 31 rfl) ?_
  rw [ha5]
  refine jt_i (As := [.int a1, .int a2, .int a3, .int a4, .int a5]) (rest := []) (D := D) (yy := yy) (oa := oa) (O := O1) (P := (pV yy h0 an B1 B2 F1 G1 F2 G2 M1)) (M := mW yy A FM GM) (w1 := fun u : jS => mW yy A u.1 u.2) ⟨hx, hb, hml, hown, hts⟩ (qX12_addPump l D yy A FM GM H.size a1 a2 a3 a4 a5 hok12) (cwV 5 hts (jgV gw690 gw691 gw692 gw5 gw693) rfl rfl rfl (by decide +kernel) ⟨Nat.le_of_ble_eq_true rfl, Nat.le_of_ble_eq_true rfl⟩) hV hK hD hS hA (va_recv hK (kW_M hV) (ci := 12) (q0 := 0) rfl rfl) rfl hl.1 rfl (Nat.le_of_ble_eq_true rfl) (dd_of dL_law_8 32 rfl) hf (fun x6 u H locs h6 hV hD hS => ?_)
  obtain ⟨FM1, GM1⟩ := u
  have h6 : (x6, (FM1, GM1)) = (gX12_addPump FM GM a1 a2 a3 a4 a5) := h6
  have hV : va_P D vwCl (kW yy oa O1 (pV yy h0 an B1 B2 F1 G1 F2 G2 M1) (mW yy A FM1 GM1) sa L xs) H := hV
  have hD : va_D Z (kW yy oa O1 (pV yy h0 an B1 B2 F1 G1 F2 G2 M1) (mW yy A FM1 GM1) sa L xs) := hD
  refine lv_istore (lv' := [(6, .int x6), (5, .int x5), (4, .int i), (3, .ref oa), (2, .ref (A 99)), (1, .ref h0), (0, .ref sa)]) hx hb (dd_of dL_law_8 33 rfl) hl (by decide) rfl (fun ls hl => ?_)
  refine lv_aload_n hx hb (dd_of dL_law_8 34 rfl) rfl (lv_at hl 4 rfl) ?_
  refine jc_i (As := []) (rest := []) (w := mW yy A FM1 GM1) (D := D) (yy := yy) ⟨hx, hb, hml, hown, hts⟩ (qX12_thrown l D yy A FM1 GM1) (cwV 0 hts (jgV gw594 gw595 gw596 gw5 gw597) rfl rfl rfl (by decide +kernel) ⟨Nat.le_of_ble_eq_true rfl, Nat.le_of_ble_eq_true rfl⟩) (kW_M hV) hK (va_recv hK (kW_M hV) (ci := 12) (q0 := 0) rfl rfl) rfl hl.1 rfl (Nat.le_of_ble_eq_true rfl) (dd_of dL_law_8 35 rfl) hf (fun x7 e7 => ?_)
  refine lv_iload hx hb (dd_of dL_law_8 36 rfl) (lv_at hl 1 rfl) ?_
  refine lv_icmp_eq (tgt := 686) hx hb (dd_of dL_law_8 37 rfl) (by decide) (fun c7 => ?_) (fun c7 => absurd (e7.trans ((hth _ _ _ h6).trans hk5.symm)) c7)
  have how : ((∃ x, (gX11_addPump F G M a1 a2 a3 a4 a5) = (0, (x, ((F1, G1), M1)))) ∨ ((gX11_addPump F G M a1 a2 a3 a4 a5).1 ≠ 0 ∧ B1 = B ∧ F1 = F ∧ G1 = G ∧ M1 = M)) := by
    rcases hp with ⟨x, h1, _, _⟩ | ⟨h1, _, h2⟩
    · exact Or.inl ⟨x, h1⟩
    · simp only [Prod.mk.injEq] at h2
      exact Or.inr ⟨h1, h2.1.1.1, h2.1.1.2.1, h2.1.1.2.2, h2.1.2⟩
  refine lv_iload hx hb (dd_of dL_law_9 0 rfl) (lv_at hl 1 rfl) ?_
  refine lv_if_ne (tgt := 703) hx hb (dd_of dL_law_9 1 rfl) (by decide) (fun c8 => ?_) (fun c8 => ?_)
  · skip
    refine lv_goto (tgt := 2515) hx hb (dd_of dL_law_9 11 rfl) (by decide) ?_
    exact kk B1 F1 G1 M1 x6 FM1 GM1 O1 H locs ls how hB1 h6 hV hD hS (lv_sub hl [2, 3, 4, 5, 6] rfl)
  · skip
    have hO := kW_O hV
    have h9 : O1 0 = Int32.toInt64 x6 := by
      rcases hp with ⟨x, h1, _, h2⟩ | ⟨h1, h2, _⟩
      · rw [h2]; exact hval _ _ _ _ h1 h6
      · exfalso; rw [h2] at c8; rcases hcod with hq | hq | hq | hq <;> first | exact h1 hq | (rw [hq] at c8; exact absurd c8 (by decide))
    refine lv_aload_n hx hb (dd_of dL_law_9 2 rfl) rfl (lv_at hl 3 rfl) ?_
    refine lv_iconst (v := 0) hx hb (dd_of dL_law_9 3 rfl) (by decide) ?_
    refine va_lald hx hb hK hO 0 1 rfl rfl (vin_lit (by decide)) (dd_of dL_law_9 4 rfl) ?_
    refine lv_iload hx hb (dd_of dL_law_9 5 rfl) (lv_at hl 0 rfl) ?_
    refine lv_i2l (v := Int32.toInt64 x6) hx hb (dd_of dL_law_9 6 rfl) rfl ?_
    refine jl_eq (tgt := 703) hx hb (dd_of dL_law_9 7 rfl) (dd_of dL_law_9 8 rfl) (by decide) (fun c10 => ?_) (fun c10 => absurd h9 c10)
    refine lv_goto (tgt := 2515) hx hb (dd_of dL_law_9 11 rfl) (by decide) ?_
    exact kk B1 F1 G1 M1 x6 FM1 GM1 O1 H locs ls how hB1 h6 hV hD hS (lv_sub hl [2, 3, 4, 5, 6] rfl)
set_option maxHeartbeats 4000000 in
set_option maxRecDepth 100000 in
theorem cs_addDyke {p : Program} {l : Launch} {e : Env} {s : State} {m : MethodId} {args : Array Value} {below : List Frame} {meth : Method} {c : Code} {H : Heap} {locs : List Loc} {cells slots : Nat} {Q : State → Prop} {ls : Array Slot} {c0 : Cond} {D : va_G} {yy : Nat → ClassId} {Z : Nat → Prop} (hl9 : l.stackTraces = false) (oa h0 an sa L : Nat) (i : Int32) (xs : Nat → Int32) (O : Nat → Int64) (A B B2 : Nat → Nat) (F : jF) (G : jG) (F2 : jF) (G2 : jG) (M FM : jF) (GM : jG) (a1 : Int32) (hi1 : vp_in (i + 1) L) (ha1 : xs (Int32.toNatClampNeg (i + 1)) = a1) (a2 : Int32) (hi2 : vp_in (i + 2) L) (ha2 : xs (Int32.toNatClampNeg (i + 2)) = a2) (a3 : Int32) (hi3 : vp_in (i + 3) L) (ha3 : xs (Int32.toNatClampNeg (i + 3)) = a3) (a4 : Int32) (hi4 : vp_in (i + 4) L) (ha4 : xs (Int32.toNatClampNeg (i + 4)) = a4) (a5 : Int32) (hi5 : vp_in (i + 5) L) (ha5 : xs (Int32.toNatClampNeg (i + 5)) = a5) (hok : okX11_addDyke F G M a1 a2 a3 a4 a5) (hcod : (gX11_addDyke F G M a1 a2 a3 a4 a5).1 = 0 ∨ (gX11_addDyke F G M a1 a2 a3 a4 a5).1 = 1 ∨ (gX11_addDyke F G M a1 a2 a3 a4 a5).1 = 2 ∨ (gX11_addDyke F G M a1 a2 a3 a4 a5).1 = 3) (hok12 : okX12_addDyke FM GM a1 a2 a3 a4 a5) (hth : ∀ (x6 : Int32) (FM1 : jF) (GM1 : jG), (x6, (FM1, GM1)) = (gX12_addDyke FM GM a1 a2 a3 a4 a5) → gX12_thrown FM1 GM1 = wk 1 2 3 (gX11_addDyke F G M a1 a2 a3 a4 a5).1) (hval : ∀ x st x6 st6, (gX11_addDyke F G M a1 a2 a3 a4 a5) = (0, (x, st)) → (x6, st6) = (gX12_addDyke FM GM a1 a2 a3 a4 a5) → Int32.toInt64 x = Int32.toInt64 x6) (hx : p.tables.exec = Jvm.exec) (hb : c.code = cL_law) (hml : c.maxLocals = 8) (hown : s.vm.findClass RL = some m.cls) (hts : ∀ w ∈ c0 :: wsL_law, w.before args s = true) (hV : va_P D vwCl (kW yy oa O (pV yy h0 an B B2 F G F2 G2 M) (mW yy A FM GM) sa L xs) H) (hK : va_K D vwCl (jT yy) s) (hT : jTP Z s) (hN : jNc s) (hD : va_D Z (kW yy oa O (pV yy h0 an B B2 F G F2 G2 M) (mW yy A FM GM) sa L xs)) (hS : va_S Z s.heap H locs) (hA : ∀ q, s.heap.size ≤ q → Z q) (hX0 : va_X sa L xs s s.heap) (hbl : sa < s.heap.size) (hbA : ¬ Z sa) (hl : lv_has ls 8 [(4, .int i), (3, .ref oa), (2, .ref (A 99)), (1, .ref h0), (0, .ref sa)]) (hf : cells + 9 ≤ rmLaw.cells ∧ slots + 64 ≤ rmLaw.slots)
    (kk : ∀ (B1 : Nat → Nat) (F1 : jF) (G1 : jG) (M1 : jF) (x6 : Int32) (FM1 : jF) (GM1 : jG) (O1 : Nat → Int64) (H : Heap) (locs : List Loc) (ls : Array Slot), ((∃ x, (gX11_addDyke F G M a1 a2 a3 a4 a5) = (0, (x, ((F1, G1), M1)))) ∨ ((gX11_addDyke F G M a1 a2 a3 a4 a5).1 ≠ 0 ∧ B1 = B ∧ F1 = F ∧ G1 = G ∧ M1 = M)) → (∀ k, k < 100 → B1 k = B k) → (x6, (FM1, GM1)) = (gX12_addDyke FM GM a1 a2 a3 a4 a5) → va_P D vwCl (kW yy oa O1 (pV yy h0 an B1 B2 F1 G1 F2 G2 M1) (mW yy A FM1 GM1) sa L xs) H → va_D Z (kW yy oa O1 (pV yy h0 an B1 B2 F1 G1 F2 G2 M1) (mW yy A FM1 GM1) sa L xs) → va_S Z s.heap H locs → lv_has ls 8 [(4, .int i), (3, .ref oa), (2, .ref (A 99)), (1, .ref h0), (0, .ref sa)] → W p l e rmLaw s m args below meth c H locs (cells + 9) (slots + 64) Q (F0 m 2515 ls [])) : W p l e rmLaw s m args below meth c H locs cells slots Q (F0 m 706 ls []) := by
  refine lv_aload_n hx hb (dd_of dL_law_9 12 rfl) rfl (lv_at hl 3 rfl) ?_
  refine lv_aload_n hx hb (dd_of dL_law_9 13 rfl) rfl (lv_at hl 4 rfl) ?_
  refine lv_iload hx hb (dd_of dL_law_9 14 rfl) (lv_at hl 0 rfl) ?_
  refine lv_iconst (v := 1) hx hb (dd_of dL_law_9 15 rfl) (by decide) ?_
  refine lv_iadd hx hb (dd_of dL_law_9 16 rfl) ?_
  refine va_sld hx hb hX0 hbl hbA hS hi1 (dd_of dL_law_9 17 rfl) ?_
  rw [ha1]
  refine lv_aload_n hx hb (dd_of dL_law_9 18 rfl) rfl (lv_at hl 4 rfl) ?_
  refine lv_iload hx hb (dd_of dL_law_9 19 rfl) (lv_at hl 0 rfl) ?_
  refine lv_iconst (v := 2) hx hb (dd_of dL_law_9 20 rfl) (by decide) ?_
  refine lv_iadd hx hb (dd_of dL_law_9 21 rfl) ?_
  refine va_sld hx hb hX0 hbl hbA hS hi2 (dd_of dL_law_9 22 rfl) ?_
  rw [ha2]
  refine lv_aload_n hx hb (dd_of dL_law_9 23 rfl) rfl (lv_at hl 4 rfl) ?_
  refine lv_iload hx hb (dd_of dL_law_9 24 rfl) (lv_at hl 0 rfl) ?_
  refine lv_iconst (v := 3) hx hb (dd_of dL_law_9 25 rfl) (by decide) ?_
  refine lv_iadd hx hb (dd_of dL_law_9 26 rfl) ?_
  refine va_sld hx hb hX0 hbl hbA hS hi3 (dd_of dL_law_9 27 rfl) ?_
  rw [ha3]
  refine lv_aload_n hx hb (dd_of dL_law_9 28 rfl) rfl (lv_at hl 4 rfl) ?_
  refine lv_iload hx hb (dd_of dL_law_9 29 rfl) (lv_at hl 0 rfl) ?_
  refine lv_iconst (v := 4) hx hb (dd_of dL_law_9 30 rfl) (by decide) ?_
  refine lv_iadd hx hb (dd_of dL_law_9 31 rfl) ?_
  refine va_sld hx hb hX0 hbl hbA hS hi4 (dd_of dL_law_9 32 rfl) ?_
  rw [ha4]
  refine lv_aload_n hx hb (dd_of dL_law_9 33 rfl) rfl (lv_at hl 4 rfl) ?_
  refine lv_iload hx hb (dd_of dL_law_9 34 rfl) (lv_at hl 0 rfl) ?_
  refine lv_iconst (v := 5) hx hb (dd_of dL_law_9 35 rfl) (by decide) ?_
  refine lv_iadd hx hb (dd_of dL_law_9 36 rfl) ?_
  refine va_sld hx hb hX0 hbl hbA hS hi5 (dd_of dL_law_9 37 rfl) ?_
  rw [ha5]
  refine lv_aload_n hx hb (dd_of dL_law_9 38 rfl) rfl (lv_at hl 1 rfl) ?_
  have hq := qL_addDyke l hl9 D yy oa h0 an O B B2 F G F2 G2 M (mW yy A FM GM ++ []) H.size a1 a2 a3 a4 a5 hok hcod
  refine js_i (As := [.ref h0, .int a1, .int a2, .int a3, .int a4, .int a5, .ref oa]) (rest := []) (D := D) (yy := yy) (w := (kW yy oa O (pV yy h0 an B B2 F G F2 G2 M) (mW yy A FM GM) sa L xs)) (w1 := fun u : (((Nat → Nat) × jS) × jF) × (Nat → Int64) => kW yy oa u.2 (pV yy h0 an u.1.1.1 B2 u.1.1.2.1 u.1.1.2.2 F2 G2 u.1.2) (mW yy A FM GM) sa L xs) ⟨hx, hb, hml, hown, hts⟩ hq (vx_cwSW 7 hts (jgW gw695 gw696 gw173 gw697) rfl rfl rfl (by decide +kernel) ⟨Nat.le_of_ble_eq_true rfl, Nat.le_of_ble_eq_true rfl⟩) hV hK hT hN hD hS hA rfl hl.1 rfl (Nat.le_of_ble_eq_true rfl) (dd_of dL_law_9 39 rfl) hf (fun x5 u H locs hp hV hD hS => ?_)
  obtain ⟨⟨⟨B1, F1, G1⟩, M1⟩, O1⟩ := u
  obtain ⟨hp, hB1⟩ := hp
  have hB1 : ∀ k, k < 100 → B1 k = B k := hB1
  have hp : ((∃ x, (gX11_addDyke F G M a1 a2 a3 a4 a5) = (0, (x, ((F1, G1), M1))) ∧ x5 = 0 ∧ O1 = vp_updL O 0 (Int32.toInt64 x)) ∨ ((gX11_addDyke F G M a1 a2 a3 a4 a5).1 ≠ 0 ∧ x5 = wk 1 2 3 (gX11_addDyke F G M a1 a2 a3 a4 a5).1 ∧ (((B1, (F1, G1)), M1), O1) = (((B, (F, G)), M), O))) := hp
  have hV : va_P D vwCl (kW yy oa O1 (pV yy h0 an B1 B2 F1 G1 F2 G2 M1) (mW yy A FM GM) sa L xs) H := hV
  have hD : va_D Z (kW yy oa O1 (pV yy h0 an B1 B2 F1 G1 F2 G2 M1) (mW yy A FM GM) sa L xs) := hD
  have hk5 : x5 = wk 1 2 3 (gX11_addDyke F G M a1 a2 a3 a4 a5).1 := by
    rcases hp with ⟨x, h1, h2, _⟩ | ⟨_, h2, _⟩
    · rw [h2, h1]; rfl
    · exact h2
  refine lv_istore (lv' := [(5, .int x5), (4, .int i), (3, .ref oa), (2, .ref (A 99)), (1, .ref h0), (0, .ref sa)]) hx hb (dd_of dL_law_10 0 rfl) hl (by decide) rfl (fun ls hl => ?_)
  refine lv_aload_n hx hb (dd_of dL_law_10 1 rfl) rfl (lv_at hl 3 rfl) ?_
  refine lv_aload_n hx hb (dd_of dL_law_10 2 rfl) rfl (lv_at hl 5 rfl) ?_
  refine lv_iload hx hb (dd_of dL_law_10 3 rfl) (lv_at hl 1 rfl) ?_
  refine lv_iconst (v := 1) hx hb (dd_of dL_law_10 4 rfl) (by decide) ?_
  refine lv_iadd hx hb (dd_of dL_law_10 5 rfl) ?_
  refine va_sld hx hb hX0 hbl hbA hS hi1 (dd_of dL_law_10 6 rfl) ?_
  rw [ha1]
  refine lv_aload_n hx hb (dd_of dL_law_10 7 rfl) rfl (lv_at hl 5 rfl) ?_
  refine lv_iload hx hb (dd_of dL_law_10 8 rfl) (lv_at hl 1 rfl) ?_
  refine lv_iconst (v := 2) hx hb (dd_of dL_law_10 9 rfl) (by decide) ?_
  refine lv_iadd hx hb (dd_of dL_law_10 10 rfl) ?_
  refine va_sld hx hb hX0 hbl hbA hS hi2 (dd_of dL_law_10 11 rfl) ?_
  rw [ha2]
  refine lv_aload_n hx hb (dd_of dL_law_10 12 rfl) rfl (lv_at hl 5 rfl) ?_
  refine lv_iload hx hb (dd_of dL_law_10 13 rfl) (lv_at hl 1 rfl) ?_
  refine lv_iconst (v := 3) hx hb (dd_of dL_law_10 14 rfl) (by decide) ?_
  refine lv_iadd hx hb (dd_of dL_law_10 15 rfl) ?_
  refine va_sld hx hb hX0 hbl hbA hS hi3 (dd_of dL_law_10 16 rfl) ?_
  rw [ha3]
  refine lv_aload_n hx hb (dd_of dL_law_10 17 rfl) rfl (lv_at hl 5 rfl) ?_
  refine lv_iload hx hb (dd_of dL_law_10 18 rfl) (lv_at hl 1 rfl) ?_
  refine lv_iconst (v := 4) hx hb (dd_of dL_law_10 19 rfl) (by decide) ?_
  refine lv_iadd hx hb (dd_of dL_law_10 20 rfl) ?_
  refine va_sld hx hb hX0 hbl hbA hS hi4 (dd_of dL_law_10 21 rfl) ?_
  rw [ha4]
  refine lv_aload_n hx hb (dd_of dL_law_10 22 rfl) rfl (lv_at hl 5 rfl) ?_
  refine lv_iload hx hb (dd_of dL_law_10 23 rfl) (lv_at hl 1 rfl) ?_
  refine lv_iconst (v := 5) hx hb (dd_of dL_law_10 24 rfl) (by decide) ?_
  refine lv_iadd hx hb (dd_of dL_law_10 25 rfl) ?_
  refine va_sld hx hb hX0 hbl hbA hS hi5 (dd_of dL_law_10 26 rfl) ?_
  rw [ha5]
  refine jt_i (As := [.int a1, .int a2, .int a3, .int a4, .int a5]) (rest := []) (D := D) (yy := yy) (oa := oa) (O := O1) (P := (pV yy h0 an B1 B2 F1 G1 F2 G2 M1)) (M := mW yy A FM GM) (w1 := fun u : jS => mW yy A u.1 u.2) ⟨hx, hb, hml, hown, hts⟩ (qX12_addDyke l D yy A FM GM H.size a1 a2 a3 a4 a5 hok12) (cwV 5 hts (jgV gw703 gw704 gw705 gw5 gw706) rfl rfl rfl (by decide +kernel) ⟨Nat.le_of_ble_eq_true rfl, Nat.le_of_ble_eq_true rfl⟩) hV hK hD hS hA (va_recv hK (kW_M hV) (ci := 12) (q0 := 0) rfl rfl) rfl hl.1 rfl (Nat.le_of_ble_eq_true rfl) (dd_of dL_law_10 27 rfl) hf (fun x6 u H locs h6 hV hD hS => ?_)
  obtain ⟨FM1, GM1⟩ := u
  have h6 : (x6, (FM1, GM1)) = (gX12_addDyke FM GM a1 a2 a3 a4 a5) := h6
  have hV : va_P D vwCl (kW yy oa O1 (pV yy h0 an B1 B2 F1 G1 F2 G2 M1) (mW yy A FM1 GM1) sa L xs) H := hV
  have hD : va_D Z (kW yy oa O1 (pV yy h0 an B1 B2 F1 G1 F2 G2 M1) (mW yy A FM1 GM1) sa L xs) := hD
  refine lv_istore (lv' := [(6, .int x6), (5, .int x5), (4, .int i), (3, .ref oa), (2, .ref (A 99)), (1, .ref h0), (0, .ref sa)]) hx hb (dd_of dL_law_10 28 rfl) hl (by decide) rfl (fun ls hl => ?_)
  refine lv_aload_n hx hb (dd_of dL_law_10 29 rfl) rfl (lv_at hl 4 rfl) ?_
  refine jc_i (As := []) (rest := []) (w := mW yy A FM1 GM1) (D := D) (yy := yy) ⟨hx, hb, hml, hown, hts⟩ (qX12_thrown l D yy A FM1 GM1) (cwV 0 hts (jgV gw594 gw595 gw596 gw5 gw597) rfl rfl rfl (by decide +kernel) ⟨Nat.le_of_ble_eq_true rfl, Nat.le_of_ble_eq_true rfl⟩) (kW_M hV) hK (va_recv hK (kW_M hV) (ci := 12) (q0 := 0) rfl rfl) rfl hl.1 rfl (Nat.le_of_ble_eq_true rfl) (dd_of dL_law_10 30 rfl) hf (fun x7 e7 => ?_)
  refine lv_iload hx hb (dd_of dL_law_10 31 rfl) (lv_at hl 1 rfl) ?_
  refine lv_icmp_eq (tgt := 790) hx hb (dd_of dL_law_10 32 rfl) (by decide) (fun c7 => ?_) (fun c7 => absurd (e7.trans ((hth _ _ _ h6).trans hk5.symm)) c7)
  have how : ((∃ x, (gX11_addDyke F G M a1 a2 a3 a4 a5) = (0, (x, ((F1, G1), M1)))) ∨ ((gX11_addDyke F G M a1 a2 a3 a4 a5).1 ≠ 0 ∧ B1 = B ∧ F1 = F ∧ G1 = G ∧ M1 = M)) := by
    rcases hp with ⟨x, h1, _, _⟩ | ⟨h1, _, h2⟩
    · exact Or.inl ⟨x, h1⟩
    · simp only [Prod.mk.injEq] at h2
      exact Or.inr ⟨h1, h2.1.1.1, h2.1.1.2.1, h2.1.1.2.2, h2.1.2⟩
  refine lv_iload hx hb (dd_of dL_law_10 35 rfl) (lv_at hl 1 rfl) ?_
  refine lv_if_ne (tgt := 807) hx hb (dd_of dL_law_10 36 rfl) (by decide) (fun c8 => ?_) (fun c8 => ?_)
  · skip
    refine lv_goto (tgt := 2515) hx hb (dd_of dL_law_11 6 rfl) (by decide) ?_
    exact kk B1 F1 G1 M1 x6 FM1 GM1 O1 H locs ls how hB1 h6 hV hD hS (lv_sub hl [2, 3, 4, 5, 6] rfl)
  · skip
    have hO := kW_O hV
    have h9 : O1 0 = Int32.toInt64 x6 := by
      rcases hp with ⟨x, h1, _, h2⟩ | ⟨h1, h2, _⟩
      · rw [h2]; exact hval _ _ _ _ h1 h6
      · exfalso; rw [h2] at c8; rcases hcod with hq | hq | hq | hq <;> first | exact h1 hq | (rw [hq] at c8; exact absurd c8 (by decide))
    refine lv_aload_n hx hb (dd_of dL_law_10 37 rfl) rfl (lv_at hl 3 rfl) ?_
    refine lv_iconst (v := 0) hx hb (dd_of dL_law_10 38 rfl) (by decide) ?_
    refine va_lald hx hb hK hO 0 1 rfl rfl (vin_lit (by decide)) (dd_of dL_law_10 39 rfl) ?_
    refine lv_iload hx hb (dd_of dL_law_11 0 rfl) (lv_at hl 0 rfl) ?_
    refine lv_i2l (v := Int32.toInt64 x6) hx hb (dd_of dL_law_11 1 rfl) rfl ?_
    refine jl_eq (tgt := 807) hx hb (dd_of dL_law_11 2 rfl) (dd_of dL_law_11 3 rfl) (by decide) (fun c10 => ?_) (fun c10 => absurd h9 c10)
    refine lv_goto (tgt := 2515) hx hb (dd_of dL_law_11 6 rfl) (by decide) ?_
    exact kk B1 F1 G1 M1 x6 FM1 GM1 O1 H locs ls how hB1 h6 hV hD hS (lv_sub hl [2, 3, 4, 5, 6] rfl)
set_option maxHeartbeats 4000000 in
set_option maxRecDepth 100000 in
theorem cs_setOutside {p : Program} {l : Launch} {e : Env} {s : State} {m : MethodId} {args : Array Value} {below : List Frame} {meth : Method} {c : Code} {H : Heap} {locs : List Loc} {cells slots : Nat} {Q : State → Prop} {ls : Array Slot} {c0 : Cond} {D : va_G} {yy : Nat → ClassId} {Z : Nat → Prop} (hl9 : l.stackTraces = false) (oa h0 an sa L : Nat) (i : Int32) (xs : Nat → Int32) (O : Nat → Int64) (A B B2 : Nat → Nat) (F : jF) (G : jG) (F2 : jF) (G2 : jG) (M FM : jF) (GM : jG) (a1 : Int32) (hi1 : vp_in (i + 1) L) (ha1 : xs (Int32.toNatClampNeg (i + 1)) = a1) (a2 : Int32) (hi2 : vp_in (i + 2) L) (ha2 : xs (Int32.toNatClampNeg (i + 2)) = a2) (a3 : Int32) (hi3 : vp_in (i + 3) L) (ha3 : xs (Int32.toNatClampNeg (i + 3)) = a3) (hok : okX11_setOutside F G M a1 a2 a3) (hcod : (gX11_setOutside F G M a1 a2 a3).1 = 0 ∨ (gX11_setOutside F G M a1 a2 a3).1 = 2) (hth : ∀ (FM1 : jF) (GM1 : jG), (FM1, GM1) = (gX12_setOutside FM GM a1 a2 a3) → gX12_thrown FM1 GM1 = wk 2 9 9 (gX11_setOutside F G M a1 a2 a3).1) (hx : p.tables.exec = Jvm.exec) (hb : c.code = cL_law) (hml : c.maxLocals = 8) (hown : s.vm.findClass RL = some m.cls) (hts : ∀ w ∈ c0 :: wsL_law, w.before args s = true) (hV : va_P D vwCl (kW yy oa O (pV yy h0 an B B2 F G F2 G2 M) (mW yy A FM GM) sa L xs) H) (hK : va_K D vwCl (jT yy) s) (hT : jTP Z s) (hN : jNc s) (hD : va_D Z (kW yy oa O (pV yy h0 an B B2 F G F2 G2 M) (mW yy A FM GM) sa L xs)) (hS : va_S Z s.heap H locs) (hA : ∀ q, s.heap.size ≤ q → Z q) (hX0 : va_X sa L xs s s.heap) (hbl : sa < s.heap.size) (hbA : ¬ Z sa) (hl : lv_has ls 8 [(4, .int i), (3, .ref oa), (2, .ref (A 99)), (1, .ref h0), (0, .ref sa)]) (hf : cells + 9 ≤ rmLaw.cells ∧ slots + 64 ≤ rmLaw.slots)
    (kk : ∀ (B1 : Nat → Nat) (F1 : jF) (G1 : jG) (M1 : jF) (FM1 : jF) (GM1 : jG) (O1 : Nat → Int64) (H : Heap) (locs : List Loc) (ls : Array Slot), (((gX11_setOutside F G M a1 a2 a3) = (0, ((F1, G1), M1))) ∨ ((gX11_setOutside F G M a1 a2 a3).1 ≠ 0 ∧ B1 = B ∧ F1 = F ∧ G1 = G ∧ M1 = M)) → (∀ k, k < 100 → B1 k = B k) → (FM1, GM1) = (gX12_setOutside FM GM a1 a2 a3) → va_P D vwCl (kW yy oa O1 (pV yy h0 an B1 B2 F1 G1 F2 G2 M1) (mW yy A FM1 GM1) sa L xs) H → va_D Z (kW yy oa O1 (pV yy h0 an B1 B2 F1 G1 F2 G2 M1) (mW yy A FM1 GM1) sa L xs) → va_S Z s.heap H locs → lv_has ls 8 [(4, .int i), (3, .ref oa), (2, .ref (A 99)), (1, .ref h0), (0, .ref sa)] → W p l e rmLaw s m args below meth c H locs (cells + 9) (slots + 64) Q (F0 m 2515 ls [])) : W p l e rmLaw s m args below meth c H locs cells slots Q (F0 m 810 ls []) := by
  refine lv_aload_n hx hb (dd_of dL_law_11 7 rfl) rfl (lv_at hl 3 rfl) ?_
  refine lv_aload_n hx hb (dd_of dL_law_11 8 rfl) rfl (lv_at hl 4 rfl) ?_
  refine lv_iload hx hb (dd_of dL_law_11 9 rfl) (lv_at hl 0 rfl) ?_
  refine lv_iconst (v := 1) hx hb (dd_of dL_law_11 10 rfl) (by decide) ?_
  refine lv_iadd hx hb (dd_of dL_law_11 11 rfl) ?_
  refine va_sld hx hb hX0 hbl hbA hS hi1 (dd_of dL_law_11 12 rfl) ?_
  rw [ha1]
  refine lv_aload_n hx hb (dd_of dL_law_11 13 rfl) rfl (lv_at hl 4 rfl) ?_
  refine lv_iload hx hb (dd_of dL_law_11 14 rfl) (lv_at hl 0 rfl) ?_
  refine lv_iconst (v := 2) hx hb (dd_of dL_law_11 15 rfl) (by decide) ?_
  refine lv_iadd hx hb (dd_of dL_law_11 16 rfl) ?_
  refine va_sld hx hb hX0 hbl hbA hS hi2 (dd_of dL_law_11 17 rfl) ?_
  rw [ha2]
  refine lv_aload_n hx hb (dd_of dL_law_11 18 rfl) rfl (lv_at hl 4 rfl) ?_
  refine lv_iload hx hb (dd_of dL_law_11 19 rfl) (lv_at hl 0 rfl) ?_
  refine lv_iconst (v := 3) hx hb (dd_of dL_law_11 20 rfl) (by decide) ?_
  refine lv_iadd hx hb (dd_of dL_law_11 21 rfl) ?_
  refine va_sld hx hb hX0 hbl hbA hS hi3 (dd_of dL_law_11 22 rfl) ?_
  rw [ha3]
  have hq := qL_setOutside l hl9 D yy oa h0 an O B B2 F G F2 G2 M (mW yy A FM GM ++ []) H.size a1 a2 a3 hok hcod
  refine js_i (As := [.ref h0, .int a1, .int a2, .int a3]) (rest := []) (D := D) (yy := yy) (w := (kW yy oa O (pV yy h0 an B B2 F G F2 G2 M) (mW yy A FM GM) sa L xs)) (w1 := fun u : (((Nat → Nat) × jS) × jF) × (Nat → Int64) => kW yy oa u.2 (pV yy h0 an u.1.1.1 B2 u.1.1.2.1 u.1.1.2.2 F2 G2 u.1.2) (mW yy A FM GM) sa L xs) ⟨hx, hb, hml, hown, hts⟩ hq (vx_cwSW 4 hts (jgW gw708 gw709 gw173 gw710) rfl rfl rfl (by decide +kernel) ⟨Nat.le_of_ble_eq_true rfl, Nat.le_of_ble_eq_true rfl⟩) hV hK hT hN hD hS hA rfl hl.1 rfl (Nat.le_of_ble_eq_true rfl) (dd_of dL_law_11 23 rfl) hf (fun x5 u H locs hp hV hD hS => ?_)
  obtain ⟨⟨⟨B1, F1, G1⟩, M1⟩, O1⟩ := u
  obtain ⟨hp, hB1⟩ := hp
  have hB1 : ∀ k, k < 100 → B1 k = B k := hB1
  have hp : (((gX11_setOutside F G M a1 a2 a3) = (0, ((F1, G1), M1)) ∧ x5 = 0 ∧ O1 = O) ∨ ((gX11_setOutside F G M a1 a2 a3).1 ≠ 0 ∧ x5 = wk 2 9 9 (gX11_setOutside F G M a1 a2 a3).1 ∧ (((B1, (F1, G1)), M1), O1) = (((B, (F, G)), M), O))) := hp
  have hV : va_P D vwCl (kW yy oa O1 (pV yy h0 an B1 B2 F1 G1 F2 G2 M1) (mW yy A FM GM) sa L xs) H := hV
  have hD : va_D Z (kW yy oa O1 (pV yy h0 an B1 B2 F1 G1 F2 G2 M1) (mW yy A FM GM) sa L xs) := hD
  have hk5 : x5 = wk 2 9 9 (gX11_setOutside F G M a1 a2 a3).1 := by
    rcases hp with ⟨h1, h2, _⟩ | ⟨_, h2, _⟩
    · rw [h2, h1]; rfl
    · exact h2
  refine lv_istore (lv' := [(5, .int x5), (4, .int i), (3, .ref oa), (2, .ref (A 99)), (1, .ref h0), (0, .ref sa)]) hx hb (dd_of dL_law_11 24 rfl) hl (by decide) rfl (fun ls hl => ?_)
  refine lv_aload_n hx hb (dd_of dL_law_11 25 rfl) rfl (lv_at hl 3 rfl) ?_
  refine lv_aload_n hx hb (dd_of dL_law_11 26 rfl) rfl (lv_at hl 5 rfl) ?_
  refine lv_iload hx hb (dd_of dL_law_11 27 rfl) (lv_at hl 1 rfl) ?_
  refine lv_iconst (v := 1) hx hb (dd_of dL_law_11 28 rfl) (by decide) ?_
  refine lv_iadd hx hb (dd_of dL_law_11 29 rfl) ?_
  refine va_sld hx hb hX0 hbl hbA hS hi1 (dd_of dL_law_11 30 rfl) ?_
  rw [ha1]
  refine lv_aload_n hx hb (dd_of dL_law_11 31 rfl) rfl (lv_at hl 5 rfl) ?_
  refine lv_iload hx hb (dd_of dL_law_11 32 rfl) (lv_at hl 1 rfl) ?_
  refine lv_iconst (v := 2) hx hb (dd_of dL_law_11 33 rfl) (by decide) ?_
  refine lv_iadd hx hb (dd_of dL_law_11 34 rfl) ?_
  refine va_sld hx hb hX0 hbl hbA hS hi2 (dd_of dL_law_11 35 rfl) ?_
  rw [ha2]
  refine lv_aload_n hx hb (dd_of dL_law_11 36 rfl) rfl (lv_at hl 5 rfl) ?_
  refine lv_iload hx hb (dd_of dL_law_11 37 rfl) (lv_at hl 1 rfl) ?_
  refine lv_iconst (v := 3) hx hb (dd_of dL_law_11 38 rfl) (by decide) ?_
  refine lv_iadd hx hb (dd_of dL_law_11 39 rfl) ?_
  refine va_sld hx hb hX0 hbl hbA hS hi3 (dd_of dL_law_12 0 rfl) ?_
  rw [ha3]
  refine jt_v (As := [.int a1, .int a2, .int a3]) (rest := []) (D := D) (yy := yy) (oa := oa) (O := O1) (P := (pV yy h0 an B1 B2 F1 G1 F2 G2 M1)) (M := mW yy A FM GM) (w1 := fun u : jS => mW yy A u.1 u.2) ⟨hx, hb, hml, hown, hts⟩ (qX12_setOutside l D yy A FM GM H.size a1 a2 a3) (cwV 3 hts (jgV gw716 gw717 gw718 gw5 gw719) rfl rfl rfl (by decide +kernel) ⟨Nat.le_of_ble_eq_true rfl, Nat.le_of_ble_eq_true rfl⟩) hV hK hD hS hA (va_recv hK (kW_M hV) (ci := 12) (q0 := 0) rfl rfl) rfl hl.1 rfl (Nat.le_of_ble_eq_true rfl) (dd_of dL_law_12 1 rfl) hf (fun u H locs h6 hV hD hS => ?_)
  obtain ⟨FM1, GM1⟩ := u
  have h6 : (FM1, GM1) = (gX12_setOutside FM GM a1 a2 a3) := h6
  have hV : va_P D vwCl (kW yy oa O1 (pV yy h0 an B1 B2 F1 G1 F2 G2 M1) (mW yy A FM1 GM1) sa L xs) H := hV
  have hD : va_D Z (kW yy oa O1 (pV yy h0 an B1 B2 F1 G1 F2 G2 M1) (mW yy A FM1 GM1) sa L xs) := hD
  refine lv_aload_n hx hb (dd_of dL_law_12 2 rfl) rfl (lv_at hl 3 rfl) ?_
  refine jc_i (As := []) (rest := []) (w := mW yy A FM1 GM1) (D := D) (yy := yy) ⟨hx, hb, hml, hown, hts⟩ (qX12_thrown l D yy A FM1 GM1) (cwV 0 hts (jgV gw594 gw595 gw596 gw5 gw597) rfl rfl rfl (by decide +kernel) ⟨Nat.le_of_ble_eq_true rfl, Nat.le_of_ble_eq_true rfl⟩) (kW_M hV) hK (va_recv hK (kW_M hV) (ci := 12) (q0 := 0) rfl rfl) rfl hl.1 rfl (Nat.le_of_ble_eq_true rfl) (dd_of dL_law_12 3 rfl) hf (fun x7 e7 => ?_)
  refine lv_iload hx hb (dd_of dL_law_12 4 rfl) (lv_at hl 0 rfl) ?_
  refine lv_icmp_eq (tgt := 867) hx hb (dd_of dL_law_12 5 rfl) (by decide) (fun c7 => ?_) (fun c7 => absurd (e7.trans ((hth _ _ h6).trans hk5.symm)) c7)
  have how : (((gX11_setOutside F G M a1 a2 a3) = (0, ((F1, G1), M1))) ∨ ((gX11_setOutside F G M a1 a2 a3).1 ≠ 0 ∧ B1 = B ∧ F1 = F ∧ G1 = G ∧ M1 = M)) := by
    rcases hp with ⟨h1, _, _⟩ | ⟨h1, _, h2⟩
    · exact Or.inl h1
    · simp only [Prod.mk.injEq] at h2
      exact Or.inr ⟨h1, h2.1.1.1, h2.1.1.2.1, h2.1.1.2.2, h2.1.2⟩
  refine lv_goto (tgt := 2515) hx hb (dd_of dL_law_12 8 rfl) (by decide) ?_
  exact kk B1 F1 G1 M1 FM1 GM1 O1 H locs ls how hB1 h6 hV hD hS (lv_sub hl [1, 2, 3, 4, 5] rfl)
set_option maxHeartbeats 4000000 in
set_option maxRecDepth 100000 in
theorem cs_storm {p : Program} {l : Launch} {e : Env} {s : State} {m : MethodId} {args : Array Value} {below : List Frame} {meth : Method} {c : Code} {H : Heap} {locs : List Loc} {cells slots : Nat} {Q : State → Prop} {ls : Array Slot} {c0 : Cond} {D : va_G} {yy : Nat → ClassId} {Z : Nat → Prop} (hl9 : l.stackTraces = false) (oa h0 an sa L : Nat) (i : Int32) (xs : Nat → Int32) (O : Nat → Int64) (A B B2 : Nat → Nat) (F : jF) (G : jG) (F2 : jF) (G2 : jG) (M FM : jF) (GM : jG) (a1 : Int32) (hi1 : vp_in (i + 1) L) (ha1 : xs (Int32.toNatClampNeg (i + 1)) = a1) (a2 : Int32) (hi2 : vp_in (i + 2) L) (ha2 : xs (Int32.toNatClampNeg (i + 2)) = a2) (a3 : Int32) (hi3 : vp_in (i + 3) L) (ha3 : xs (Int32.toNatClampNeg (i + 3)) = a3) (hok : okX11_storm F G M a1 a2 a3) (hcod : (gX11_storm F G M a1 a2 a3).1 = 0 ∨ (gX11_storm F G M a1 a2 a3).1 = 2 ∨ (gX11_storm F G M a1 a2 a3).1 = 3) (hok12 : okX12_storm FM GM a1 a2 a3) (hth : ∀ (x6 : Int32) (FM1 : jF) (GM1 : jG), (x6, (FM1, GM1)) = (gX12_storm FM GM a1 a2 a3) → gX12_thrown FM1 GM1 = wk 2 3 9 (gX11_storm F G M a1 a2 a3).1) (hval : ∀ x st x6 st6, (gX11_storm F G M a1 a2 a3) = (0, (x, st)) → (x6, st6) = (gX12_storm FM GM a1 a2 a3) → Int32.toInt64 x = Int32.toInt64 x6) (hx : p.tables.exec = Jvm.exec) (hb : c.code = cL_law) (hml : c.maxLocals = 8) (hown : s.vm.findClass RL = some m.cls) (hts : ∀ w ∈ c0 :: wsL_law, w.before args s = true) (hV : va_P D vwCl (kW yy oa O (pV yy h0 an B B2 F G F2 G2 M) (mW yy A FM GM) sa L xs) H) (hK : va_K D vwCl (jT yy) s) (hT : jTP Z s) (hN : jNc s) (hD : va_D Z (kW yy oa O (pV yy h0 an B B2 F G F2 G2 M) (mW yy A FM GM) sa L xs)) (hS : va_S Z s.heap H locs) (hA : ∀ q, s.heap.size ≤ q → Z q) (hX0 : va_X sa L xs s s.heap) (hbl : sa < s.heap.size) (hbA : ¬ Z sa) (hl : lv_has ls 8 [(4, .int i), (3, .ref oa), (2, .ref (A 99)), (1, .ref h0), (0, .ref sa)]) (hf : cells + 9 ≤ rmLaw.cells ∧ slots + 64 ≤ rmLaw.slots)
    (kk : ∀ (B1 : Nat → Nat) (F1 : jF) (G1 : jG) (M1 : jF) (x6 : Int32) (FM1 : jF) (GM1 : jG) (O1 : Nat → Int64) (H : Heap) (locs : List Loc) (ls : Array Slot), ((∃ x, (gX11_storm F G M a1 a2 a3) = (0, (x, ((F1, G1), M1)))) ∨ ((gX11_storm F G M a1 a2 a3).1 ≠ 0 ∧ B1 = B ∧ F1 = F ∧ G1 = G ∧ M1 = M)) → (∀ k, k < 100 → B1 k = B k) → (x6, (FM1, GM1)) = (gX12_storm FM GM a1 a2 a3) → va_P D vwCl (kW yy oa O1 (pV yy h0 an B1 B2 F1 G1 F2 G2 M1) (mW yy A FM1 GM1) sa L xs) H → va_D Z (kW yy oa O1 (pV yy h0 an B1 B2 F1 G1 F2 G2 M1) (mW yy A FM1 GM1) sa L xs) → va_S Z s.heap H locs → lv_has ls 8 [(4, .int i), (3, .ref oa), (2, .ref (A 99)), (1, .ref h0), (0, .ref sa)] → W p l e rmLaw s m args below meth c H locs (cells + 9) (slots + 64) Q (F0 m 2515 ls [])) : W p l e rmLaw s m args below meth c H locs cells slots Q (F0 m 870 ls []) := by
  refine lv_aload_n hx hb (dd_of dL_law_12 9 rfl) rfl (lv_at hl 3 rfl) ?_
  refine lv_aload_n hx hb (dd_of dL_law_12 10 rfl) rfl (lv_at hl 4 rfl) ?_
  refine lv_iload hx hb (dd_of dL_law_12 11 rfl) (lv_at hl 0 rfl) ?_
  refine lv_iconst (v := 1) hx hb (dd_of dL_law_12 12 rfl) (by decide) ?_
  refine lv_iadd hx hb (dd_of dL_law_12 13 rfl) ?_
  refine va_sld hx hb hX0 hbl hbA hS hi1 (dd_of dL_law_12 14 rfl) ?_
  rw [ha1]
  refine lv_aload_n hx hb (dd_of dL_law_12 15 rfl) rfl (lv_at hl 4 rfl) ?_
  refine lv_iload hx hb (dd_of dL_law_12 16 rfl) (lv_at hl 0 rfl) ?_
  refine lv_iconst (v := 2) hx hb (dd_of dL_law_12 17 rfl) (by decide) ?_
  refine lv_iadd hx hb (dd_of dL_law_12 18 rfl) ?_
  refine va_sld hx hb hX0 hbl hbA hS hi2 (dd_of dL_law_12 19 rfl) ?_
  rw [ha2]
  refine lv_aload_n hx hb (dd_of dL_law_12 20 rfl) rfl (lv_at hl 4 rfl) ?_
  refine lv_iload hx hb (dd_of dL_law_12 21 rfl) (lv_at hl 0 rfl) ?_
  refine lv_iconst (v := 3) hx hb (dd_of dL_law_12 22 rfl) (by decide) ?_
  refine lv_iadd hx hb (dd_of dL_law_12 23 rfl) ?_
  refine va_sld hx hb hX0 hbl hbA hS hi3 (dd_of dL_law_12 24 rfl) ?_
  rw [ha3]
  refine lv_aload_n hx hb (dd_of dL_law_12 25 rfl) rfl (lv_at hl 1 rfl) ?_
  have hq := qL_storm l hl9 D yy oa h0 an O B B2 F G F2 G2 M (mW yy A FM GM ++ []) H.size a1 a2 a3 hok hcod
  refine js_i (As := [.ref h0, .int a1, .int a2, .int a3, .ref oa]) (rest := []) (D := D) (yy := yy) (w := (kW yy oa O (pV yy h0 an B B2 F G F2 G2 M) (mW yy A FM GM) sa L xs)) (w1 := fun u : (((Nat → Nat) × jS) × jF) × (Nat → Int64) => kW yy oa u.2 (pV yy h0 an u.1.1.1 B2 u.1.1.2.1 u.1.1.2.2 F2 G2 u.1.2) (mW yy A FM GM) sa L xs) ⟨hx, hb, hml, hown, hts⟩ hq (vx_cwSW 5 hts (jgW gw723 gw724 gw173 gw725) rfl rfl rfl (by decide +kernel) ⟨Nat.le_of_ble_eq_true rfl, Nat.le_of_ble_eq_true rfl⟩) hV hK hT hN hD hS hA rfl hl.1 rfl (Nat.le_of_ble_eq_true rfl) (dd_of dL_law_12 26 rfl) hf (fun x5 u H locs hp hV hD hS => ?_)
  obtain ⟨⟨⟨B1, F1, G1⟩, M1⟩, O1⟩ := u
  obtain ⟨hp, hB1⟩ := hp
  have hB1 : ∀ k, k < 100 → B1 k = B k := hB1
  have hp : ((∃ x, (gX11_storm F G M a1 a2 a3) = (0, (x, ((F1, G1), M1))) ∧ x5 = 0 ∧ O1 = vp_updL O 0 (Int32.toInt64 x)) ∨ ((gX11_storm F G M a1 a2 a3).1 ≠ 0 ∧ x5 = wk 2 3 9 (gX11_storm F G M a1 a2 a3).1 ∧ (((B1, (F1, G1)), M1), O1) = (((B, (F, G)), M), O))) := hp
  have hV : va_P D vwCl (kW yy oa O1 (pV yy h0 an B1 B2 F1 G1 F2 G2 M1) (mW yy A FM GM) sa L xs) H := hV
  have hD : va_D Z (kW yy oa O1 (pV yy h0 an B1 B2 F1 G1 F2 G2 M1) (mW yy A FM GM) sa L xs) := hD
  have hk5 : x5 = wk 2 3 9 (gX11_storm F G M a1 a2 a3).1 := by
    rcases hp with ⟨x, h1, h2, _⟩ | ⟨_, h2, _⟩
    · rw [h2, h1]; rfl
    · exact h2
  refine lv_istore (lv' := [(5, .int x5), (4, .int i), (3, .ref oa), (2, .ref (A 99)), (1, .ref h0), (0, .ref sa)]) hx hb (dd_of dL_law_12 27 rfl) hl (by decide) rfl (fun ls hl => ?_)
  refine lv_aload_n hx hb (dd_of dL_law_12 28 rfl) rfl (lv_at hl 3 rfl) ?_
  refine lv_aload_n hx hb (dd_of dL_law_12 29 rfl) rfl (lv_at hl 5 rfl) ?_
  refine lv_iload hx hb (dd_of dL_law_12 30 rfl) (lv_at hl 1 rfl) ?_
  refine lv_iconst (v := 1) hx hb (dd_of dL_law_12 31 rfl) (by decide) ?_
  refine lv_iadd hx hb (dd_of dL_law_12 32 rfl) ?_
  refine va_sld hx hb hX0 hbl hbA hS hi1 (dd_of dL_law_12 33 rfl) ?_
  rw [ha1]
  refine lv_aload_n hx hb (dd_of dL_law_12 34 rfl) rfl (lv_at hl 5 rfl) ?_
  refine lv_iload hx hb (dd_of dL_law_12 35 rfl) (lv_at hl 1 rfl) ?_
  refine lv_iconst (v := 2) hx hb (dd_of dL_law_12 36 rfl) (by decide) ?_
  refine lv_iadd hx hb (dd_of dL_law_12 37 rfl) ?_
  refine va_sld hx hb hX0 hbl hbA hS hi2 (dd_of dL_law_12 38 rfl) ?_
  rw [ha2]
  refine lv_aload_n hx hb (dd_of dL_law_12 39 rfl) rfl (lv_at hl 5 rfl) ?_
  refine lv_iload hx hb (dd_of dL_law_13 0 rfl) (lv_at hl 1 rfl) ?_
  refine lv_iconst (v := 3) hx hb (dd_of dL_law_13 1 rfl) (by decide) ?_
  refine lv_iadd hx hb (dd_of dL_law_13 2 rfl) ?_
  refine va_sld hx hb hX0 hbl hbA hS hi3 (dd_of dL_law_13 3 rfl) ?_
  rw [ha3]
  refine jt_i (As := [.int a1, .int a2, .int a3]) (rest := []) (D := D) (yy := yy) (oa := oa) (O := O1) (P := (pV yy h0 an B1 B2 F1 G1 F2 G2 M1)) (M := mW yy A FM GM) (w1 := fun u : jS => mW yy A u.1 u.2) ⟨hx, hb, hml, hown, hts⟩ (qX12_storm l D yy A FM GM H.size a1 a2 a3 hok12) (cwV 3 hts (jgV gw732 gw733 gw734 gw5 gw735) rfl rfl rfl (by decide +kernel) ⟨Nat.le_of_ble_eq_true rfl, Nat.le_of_ble_eq_true rfl⟩) hV hK hD hS hA (va_recv hK (kW_M hV) (ci := 12) (q0 := 0) rfl rfl) rfl hl.1 rfl (Nat.le_of_ble_eq_true rfl) (dd_of dL_law_13 4 rfl) hf (fun x6 u H locs h6 hV hD hS => ?_)
  obtain ⟨FM1, GM1⟩ := u
  have h6 : (x6, (FM1, GM1)) = (gX12_storm FM GM a1 a2 a3) := h6
  have hV : va_P D vwCl (kW yy oa O1 (pV yy h0 an B1 B2 F1 G1 F2 G2 M1) (mW yy A FM1 GM1) sa L xs) H := hV
  have hD : va_D Z (kW yy oa O1 (pV yy h0 an B1 B2 F1 G1 F2 G2 M1) (mW yy A FM1 GM1) sa L xs) := hD
  refine lv_istore (lv' := [(6, .int x6), (5, .int x5), (4, .int i), (3, .ref oa), (2, .ref (A 99)), (1, .ref h0), (0, .ref sa)]) hx hb (dd_of dL_law_13 5 rfl) hl (by decide) rfl (fun ls hl => ?_)
  refine lv_aload_n hx hb (dd_of dL_law_13 6 rfl) rfl (lv_at hl 4 rfl) ?_
  refine jc_i (As := []) (rest := []) (w := mW yy A FM1 GM1) (D := D) (yy := yy) ⟨hx, hb, hml, hown, hts⟩ (qX12_thrown l D yy A FM1 GM1) (cwV 0 hts (jgV gw594 gw595 gw596 gw5 gw597) rfl rfl rfl (by decide +kernel) ⟨Nat.le_of_ble_eq_true rfl, Nat.le_of_ble_eq_true rfl⟩) (kW_M hV) hK (va_recv hK (kW_M hV) (ci := 12) (q0 := 0) rfl rfl) rfl hl.1 rfl (Nat.le_of_ble_eq_true rfl) (dd_of dL_law_13 7 rfl) hf (fun x7 e7 => ?_)
  refine lv_iload hx hb (dd_of dL_law_13 8 rfl) (lv_at hl 1 rfl) ?_
  refine lv_icmp_eq (tgt := 930) hx hb (dd_of dL_law_13 9 rfl) (by decide) (fun c7 => ?_) (fun c7 => absurd (e7.trans ((hth _ _ _ h6).trans hk5.symm)) c7)
  have how : ((∃ x, (gX11_storm F G M a1 a2 a3) = (0, (x, ((F1, G1), M1)))) ∨ ((gX11_storm F G M a1 a2 a3).1 ≠ 0 ∧ B1 = B ∧ F1 = F ∧ G1 = G ∧ M1 = M)) := by
    rcases hp with ⟨x, h1, _, _⟩ | ⟨h1, _, h2⟩
    · exact Or.inl ⟨x, h1⟩
    · simp only [Prod.mk.injEq] at h2
      exact Or.inr ⟨h1, h2.1.1.1, h2.1.1.2.1, h2.1.1.2.2, h2.1.2⟩
  refine lv_iload hx hb (dd_of dL_law_13 12 rfl) (lv_at hl 1 rfl) ?_
  refine lv_if_ne (tgt := 947) hx hb (dd_of dL_law_13 13 rfl) (by decide) (fun c8 => ?_) (fun c8 => ?_)
  · skip
    refine lv_goto (tgt := 2515) hx hb (dd_of dL_law_13 23 rfl) (by decide) ?_
    exact kk B1 F1 G1 M1 x6 FM1 GM1 O1 H locs ls how hB1 h6 hV hD hS (lv_sub hl [2, 3, 4, 5, 6] rfl)
  · skip
    have hO := kW_O hV
    have h9 : O1 0 = Int32.toInt64 x6 := by
      rcases hp with ⟨x, h1, _, h2⟩ | ⟨h1, h2, _⟩
      · rw [h2]; exact hval _ _ _ _ h1 h6
      · exfalso; rw [h2] at c8; rcases hcod with hq | hq | hq <;> first | exact h1 hq | (rw [hq] at c8; exact absurd c8 (by decide))
    refine lv_aload_n hx hb (dd_of dL_law_13 14 rfl) rfl (lv_at hl 3 rfl) ?_
    refine lv_iconst (v := 0) hx hb (dd_of dL_law_13 15 rfl) (by decide) ?_
    refine va_lald hx hb hK hO 0 1 rfl rfl (vin_lit (by decide)) (dd_of dL_law_13 16 rfl) ?_
    refine lv_iload hx hb (dd_of dL_law_13 17 rfl) (lv_at hl 0 rfl) ?_
    refine lv_i2l (v := Int32.toInt64 x6) hx hb (dd_of dL_law_13 18 rfl) rfl ?_
    refine jl_eq (tgt := 947) hx hb (dd_of dL_law_13 19 rfl) (dd_of dL_law_13 20 rfl) (by decide) (fun c10 => ?_) (fun c10 => absurd h9 c10)
    refine lv_goto (tgt := 2515) hx hb (dd_of dL_law_13 23 rfl) (by decide) ?_
    exact kk B1 F1 G1 M1 x6 FM1 GM1 O1 H locs ls how hB1 h6 hV hD hS (lv_sub hl [2, 3, 4, 5, 6] rfl)
set_option maxHeartbeats 4000000 in
set_option maxRecDepth 100000 in
theorem cs_rain {p : Program} {l : Launch} {e : Env} {s : State} {m : MethodId} {args : Array Value} {below : List Frame} {meth : Method} {c : Code} {H : Heap} {locs : List Loc} {cells slots : Nat} {Q : State → Prop} {ls : Array Slot} {c0 : Cond} {D : va_G} {yy : Nat → ClassId} {Z : Nat → Prop} (hl9 : l.stackTraces = false) (oa h0 an sa L : Nat) (i : Int32) (xs : Nat → Int32) (O : Nat → Int64) (A B B2 : Nat → Nat) (F : jF) (G : jG) (F2 : jF) (G2 : jG) (M FM : jF) (GM : jG) (a1 : Int32) (hi1 : vp_in (i + 1) L) (ha1 : xs (Int32.toNatClampNeg (i + 1)) = a1) (a2 : Int32) (hi2 : vp_in (i + 2) L) (ha2 : xs (Int32.toNatClampNeg (i + 2)) = a2) (a3 : Int32) (hi3 : vp_in (i + 3) L) (ha3 : xs (Int32.toNatClampNeg (i + 3)) = a3) (a4 : Int32) (hi4 : vp_in (i + 4) L) (ha4 : xs (Int32.toNatClampNeg (i + 4)) = a4) (hok : okX11_rain F G M a1 a2 a3 a4) (hcod : (gX11_rain F G M a1 a2 a3 a4).1 = 0 ∨ (gX11_rain F G M a1 a2 a3 a4).1 = 1 ∨ (gX11_rain F G M a1 a2 a3 a4).1 = 2 ∨ (gX11_rain F G M a1 a2 a3 a4).1 = 3) (hok12 : okX12_rain FM GM a1 a2 a3 a4) (hth : ∀ (x6 : Int32) (FM1 : jF) (GM1 : jG), (x6, (FM1, GM1)) = (gX12_rain FM GM a1 a2 a3 a4) → gX12_thrown FM1 GM1 = wk 1 2 3 (gX11_rain F G M a1 a2 a3 a4).1) (hval : ∀ x st x6 st6, (gX11_rain F G M a1 a2 a3 a4) = (0, (x, st)) → (x6, st6) = (gX12_rain FM GM a1 a2 a3 a4) → Int32.toInt64 x = Int32.toInt64 x6) (hx : p.tables.exec = Jvm.exec) (hb : c.code = cL_law) (hml : c.maxLocals = 8) (hown : s.vm.findClass RL = some m.cls) (hts : ∀ w ∈ c0 :: wsL_law, w.before args s = true) (hV : va_P D vwCl (kW yy oa O (pV yy h0 an B B2 F G F2 G2 M) (mW yy A FM GM) sa L xs) H) (hK : va_K D vwCl (jT yy) s) (hT : jTP Z s) (hN : jNc s) (hD : va_D Z (kW yy oa O (pV yy h0 an B B2 F G F2 G2 M) (mW yy A FM GM) sa L xs)) (hS : va_S Z s.heap H locs) (hA : ∀ q, s.heap.size ≤ q → Z q) (hX0 : va_X sa L xs s s.heap) (hbl : sa < s.heap.size) (hbA : ¬ Z sa) (hl : lv_has ls 8 [(4, .int i), (3, .ref oa), (2, .ref (A 99)), (1, .ref h0), (0, .ref sa)]) (hf : cells + 9 ≤ rmLaw.cells ∧ slots + 64 ≤ rmLaw.slots)
    (kk : ∀ (B1 : Nat → Nat) (F1 : jF) (G1 : jG) (M1 : jF) (x6 : Int32) (FM1 : jF) (GM1 : jG) (O1 : Nat → Int64) (H : Heap) (locs : List Loc) (ls : Array Slot), ((∃ x, (gX11_rain F G M a1 a2 a3 a4) = (0, (x, ((F1, G1), M1)))) ∨ ((gX11_rain F G M a1 a2 a3 a4).1 ≠ 0 ∧ B1 = B ∧ F1 = F ∧ G1 = G ∧ M1 = M)) → (∀ k, k < 100 → B1 k = B k) → (x6, (FM1, GM1)) = (gX12_rain FM GM a1 a2 a3 a4) → va_P D vwCl (kW yy oa O1 (pV yy h0 an B1 B2 F1 G1 F2 G2 M1) (mW yy A FM1 GM1) sa L xs) H → va_D Z (kW yy oa O1 (pV yy h0 an B1 B2 F1 G1 F2 G2 M1) (mW yy A FM1 GM1) sa L xs) → va_S Z s.heap H locs → lv_has ls 8 [(4, .int i), (3, .ref oa), (2, .ref (A 99)), (1, .ref h0), (0, .ref sa)] → W p l e rmLaw s m args below meth c H locs (cells + 9) (slots + 64) Q (F0 m 2515 ls [])) : W p l e rmLaw s m args below meth c H locs cells slots Q (F0 m 950 ls []) := by
  refine lv_aload_n hx hb (dd_of dL_law_13 24 rfl) rfl (lv_at hl 3 rfl) ?_
  refine lv_aload_n hx hb (dd_of dL_law_13 25 rfl) rfl (lv_at hl 4 rfl) ?_
  refine lv_iload hx hb (dd_of dL_law_13 26 rfl) (lv_at hl 0 rfl) ?_
  refine lv_iconst (v := 1) hx hb (dd_of dL_law_13 27 rfl) (by decide) ?_
  refine lv_iadd hx hb (dd_of dL_law_13 28 rfl) ?_
  refine va_sld hx hb hX0 hbl hbA hS hi1 (dd_of dL_law_13 29 rfl) ?_
  rw [ha1]
  refine lv_aload_n hx hb (dd_of dL_law_13 30 rfl) rfl (lv_at hl 4 rfl) ?_
  refine lv_iload hx hb (dd_of dL_law_13 31 rfl) (lv_at hl 0 rfl) ?_
  refine lv_iconst (v := 2) hx hb (dd_of dL_law_13 32 rfl) (by decide) ?_
  refine lv_iadd hx hb (dd_of dL_law_13 33 rfl) ?_
  refine va_sld hx hb hX0 hbl hbA hS hi2 (dd_of dL_law_13 34 rfl) ?_
  rw [ha2]
  refine lv_aload_n hx hb (dd_of dL_law_13 35 rfl) rfl (lv_at hl 4 rfl) ?_
  refine lv_iload hx hb (dd_of dL_law_13 36 rfl) (lv_at hl 0 rfl) ?_
  refine lv_iconst (v := 3) hx hb (dd_of dL_law_13 37 rfl) (by decide) ?_
  refine lv_iadd hx hb (dd_of dL_law_13 38 rfl) ?_
  refine va_sld hx hb hX0 hbl hbA hS hi3 (dd_of dL_law_13 39 rfl) ?_
  rw [ha3]
  refine lv_aload_n hx hb (dd_of dL_law_14 0 rfl) rfl (lv_at hl 4 rfl) ?_
  refine lv_iload hx hb (dd_of dL_law_14 1 rfl) (lv_at hl 0 rfl) ?_
  refine lv_iconst (v := 4) hx hb (dd_of dL_law_14 2 rfl) (by decide) ?_
  refine lv_iadd hx hb (dd_of dL_law_14 3 rfl) ?_
  refine va_sld hx hb hX0 hbl hbA hS hi4 (dd_of dL_law_14 4 rfl) ?_
  rw [ha4]
  refine lv_aload_n hx hb (dd_of dL_law_14 5 rfl) rfl (lv_at hl 1 rfl) ?_
  have hq := qL_rain l hl9 D yy oa h0 an O B B2 F G F2 G2 M (mW yy A FM GM ++ []) H.size a1 a2 a3 a4 hok hcod
  refine js_i (As := [.ref h0, .int a1, .int a2, .int a3, .int a4, .ref oa]) (rest := []) (D := D) (yy := yy) (w := (kW yy oa O (pV yy h0 an B B2 F G F2 G2 M) (mW yy A FM GM) sa L xs)) (w1 := fun u : (((Nat → Nat) × jS) × jF) × (Nat → Int64) => kW yy oa u.2 (pV yy h0 an u.1.1.1 B2 u.1.1.2.1 u.1.1.2.2 F2 G2 u.1.2) (mW yy A FM GM) sa L xs) ⟨hx, hb, hml, hown, hts⟩ hq (vx_cwSW 6 hts (jgW gw737 gw738 gw173 gw739) rfl rfl rfl (by decide +kernel) ⟨Nat.le_of_ble_eq_true rfl, Nat.le_of_ble_eq_true rfl⟩) hV hK hT hN hD hS hA rfl hl.1 rfl (Nat.le_of_ble_eq_true rfl) (dd_of dL_law_14 6 rfl) hf (fun x5 u H locs hp hV hD hS => ?_)
  obtain ⟨⟨⟨B1, F1, G1⟩, M1⟩, O1⟩ := u
  obtain ⟨hp, hB1⟩ := hp
  have hB1 : ∀ k, k < 100 → B1 k = B k := hB1
  have hp : ((∃ x, (gX11_rain F G M a1 a2 a3 a4) = (0, (x, ((F1, G1), M1))) ∧ x5 = 0 ∧ O1 = vp_updL O 0 (Int32.toInt64 x)) ∨ ((gX11_rain F G M a1 a2 a3 a4).1 ≠ 0 ∧ x5 = wk 1 2 3 (gX11_rain F G M a1 a2 a3 a4).1 ∧ (((B1, (F1, G1)), M1), O1) = (((B, (F, G)), M), O))) := hp
  have hV : va_P D vwCl (kW yy oa O1 (pV yy h0 an B1 B2 F1 G1 F2 G2 M1) (mW yy A FM GM) sa L xs) H := hV
  have hD : va_D Z (kW yy oa O1 (pV yy h0 an B1 B2 F1 G1 F2 G2 M1) (mW yy A FM GM) sa L xs) := hD
  have hk5 : x5 = wk 1 2 3 (gX11_rain F G M a1 a2 a3 a4).1 := by
    rcases hp with ⟨x, h1, h2, _⟩ | ⟨_, h2, _⟩
    · rw [h2, h1]; rfl
    · exact h2
  refine lv_istore (lv' := [(5, .int x5), (4, .int i), (3, .ref oa), (2, .ref (A 99)), (1, .ref h0), (0, .ref sa)]) hx hb (dd_of dL_law_14 7 rfl) hl (by decide) rfl (fun ls hl => ?_)
  refine lv_aload_n hx hb (dd_of dL_law_14 8 rfl) rfl (lv_at hl 3 rfl) ?_
  refine lv_aload_n hx hb (dd_of dL_law_14 9 rfl) rfl (lv_at hl 5 rfl) ?_
  refine lv_iload hx hb (dd_of dL_law_14 10 rfl) (lv_at hl 1 rfl) ?_
  refine lv_iconst (v := 1) hx hb (dd_of dL_law_14 11 rfl) (by decide) ?_
  refine lv_iadd hx hb (dd_of dL_law_14 12 rfl) ?_
  refine va_sld hx hb hX0 hbl hbA hS hi1 (dd_of dL_law_14 13 rfl) ?_
  rw [ha1]
  refine lv_aload_n hx hb (dd_of dL_law_14 14 rfl) rfl (lv_at hl 5 rfl) ?_
  refine lv_iload hx hb (dd_of dL_law_14 15 rfl) (lv_at hl 1 rfl) ?_
  refine lv_iconst (v := 2) hx hb (dd_of dL_law_14 16 rfl) (by decide) ?_
  refine lv_iadd hx hb (dd_of dL_law_14 17 rfl) ?_
  refine va_sld hx hb hX0 hbl hbA hS hi2 (dd_of dL_law_14 18 rfl) ?_
  rw [ha2]
  refine lv_aload_n hx hb (dd_of dL_law_14 19 rfl) rfl (lv_at hl 5 rfl) ?_
  refine lv_iload hx hb (dd_of dL_law_14 20 rfl) (lv_at hl 1 rfl) ?_
  refine lv_iconst (v := 3) hx hb (dd_of dL_law_14 21 rfl) (by decide) ?_
  refine lv_iadd hx hb (dd_of dL_law_14 22 rfl) ?_
  refine va_sld hx hb hX0 hbl hbA hS hi3 (dd_of dL_law_14 23 rfl) ?_
  rw [ha3]
  refine lv_aload_n hx hb (dd_of dL_law_14 24 rfl) rfl (lv_at hl 5 rfl) ?_
  refine lv_iload hx hb (dd_of dL_law_14 25 rfl) (lv_at hl 1 rfl) ?_
  refine lv_iconst (v := 4) hx hb (dd_of dL_law_14 26 rfl) (by decide) ?_
  refine lv_iadd hx hb (dd_of dL_law_14 27 rfl) ?_
  refine va_sld hx hb hX0 hbl hbA hS hi4 (dd_of dL_law_14 28 rfl) ?_
  rw [ha4]
  refine jt_i (As := [.int a1, .int a2, .int a3, .int a4]) (rest := []) (D := D) (yy := yy) (oa := oa) (O := O1) (P := (pV yy h0 an B1 B2 F1 G1 F2 G2 M1)) (M := mW yy A FM GM) (w1 := fun u : jS => mW yy A u.1 u.2) ⟨hx, hb, hml, hown, hts⟩ (qX12_rain l D yy A FM GM H.size a1 a2 a3 a4 hok12) (cwV 4 hts (jgV gw745 gw746 gw747 gw5 gw748) rfl rfl rfl (by decide +kernel) ⟨Nat.le_of_ble_eq_true rfl, Nat.le_of_ble_eq_true rfl⟩) hV hK hD hS hA (va_recv hK (kW_M hV) (ci := 12) (q0 := 0) rfl rfl) rfl hl.1 rfl (Nat.le_of_ble_eq_true rfl) (dd_of dL_law_14 29 rfl) hf (fun x6 u H locs h6 hV hD hS => ?_)
  obtain ⟨FM1, GM1⟩ := u
  have h6 : (x6, (FM1, GM1)) = (gX12_rain FM GM a1 a2 a3 a4) := h6
  have hV : va_P D vwCl (kW yy oa O1 (pV yy h0 an B1 B2 F1 G1 F2 G2 M1) (mW yy A FM1 GM1) sa L xs) H := hV
  have hD : va_D Z (kW yy oa O1 (pV yy h0 an B1 B2 F1 G1 F2 G2 M1) (mW yy A FM1 GM1) sa L xs) := hD
  refine lv_istore (lv' := [(6, .int x6), (5, .int x5), (4, .int i), (3, .ref oa), (2, .ref (A 99)), (1, .ref h0), (0, .ref sa)]) hx hb (dd_of dL_law_14 30 rfl) hl (by decide) rfl (fun ls hl => ?_)
  refine lv_aload_n hx hb (dd_of dL_law_14 31 rfl) rfl (lv_at hl 4 rfl) ?_
  refine jc_i (As := []) (rest := []) (w := mW yy A FM1 GM1) (D := D) (yy := yy) ⟨hx, hb, hml, hown, hts⟩ (qX12_thrown l D yy A FM1 GM1) (cwV 0 hts (jgV gw594 gw595 gw596 gw5 gw597) rfl rfl rfl (by decide +kernel) ⟨Nat.le_of_ble_eq_true rfl, Nat.le_of_ble_eq_true rfl⟩) (kW_M hV) hK (va_recv hK (kW_M hV) (ci := 12) (q0 := 0) rfl rfl) rfl hl.1 rfl (Nat.le_of_ble_eq_true rfl) (dd_of dL_law_14 32 rfl) hf (fun x7 e7 => ?_)
  refine lv_iload hx hb (dd_of dL_law_14 33 rfl) (lv_at hl 1 rfl) ?_
  refine lv_icmp_eq (tgt := 1022) hx hb (dd_of dL_law_14 34 rfl) (by decide) (fun c7 => ?_) (fun c7 => absurd (e7.trans ((hth _ _ _ h6).trans hk5.symm)) c7)
  have how : ((∃ x, (gX11_rain F G M a1 a2 a3 a4) = (0, (x, ((F1, G1), M1)))) ∨ ((gX11_rain F G M a1 a2 a3 a4).1 ≠ 0 ∧ B1 = B ∧ F1 = F ∧ G1 = G ∧ M1 = M)) := by
    rcases hp with ⟨x, h1, _, _⟩ | ⟨h1, _, h2⟩
    · exact Or.inl ⟨x, h1⟩
    · simp only [Prod.mk.injEq] at h2
      exact Or.inr ⟨h1, h2.1.1.1, h2.1.1.2.1, h2.1.1.2.2, h2.1.2⟩
  refine lv_iload hx hb (dd_of dL_law_14 37 rfl) (lv_at hl 1 rfl) ?_
  refine lv_if_ne (tgt := 1039) hx hb (dd_of dL_law_14 38 rfl) (by decide) (fun c8 => ?_) (fun c8 => ?_)
  · skip
    refine lv_goto (tgt := 2515) hx hb (dd_of dL_law_15 8 rfl) (by decide) ?_
    exact kk B1 F1 G1 M1 x6 FM1 GM1 O1 H locs ls how hB1 h6 hV hD hS (lv_sub hl [2, 3, 4, 5, 6] rfl)
  · skip
    have hO := kW_O hV
    have h9 : O1 0 = Int32.toInt64 x6 := by
      rcases hp with ⟨x, h1, _, h2⟩ | ⟨h1, h2, _⟩
      · rw [h2]; exact hval _ _ _ _ h1 h6
      · exfalso; rw [h2] at c8; rcases hcod with hq | hq | hq | hq <;> first | exact h1 hq | (rw [hq] at c8; exact absurd c8 (by decide))
    refine lv_aload_n hx hb (dd_of dL_law_14 39 rfl) rfl (lv_at hl 3 rfl) ?_
    refine lv_iconst (v := 0) hx hb (dd_of dL_law_15 0 rfl) (by decide) ?_
    refine va_lald hx hb hK hO 0 1 rfl rfl (vin_lit (by decide)) (dd_of dL_law_15 1 rfl) ?_
    refine lv_iload hx hb (dd_of dL_law_15 2 rfl) (lv_at hl 0 rfl) ?_
    refine lv_i2l (v := Int32.toInt64 x6) hx hb (dd_of dL_law_15 3 rfl) rfl ?_
    refine jl_eq (tgt := 1039) hx hb (dd_of dL_law_15 4 rfl) (dd_of dL_law_15 5 rfl) (by decide) (fun c10 => ?_) (fun c10 => absurd h9 c10)
    refine lv_goto (tgt := 2515) hx hb (dd_of dL_law_15 8 rfl) (by decide) ?_
    exact kk B1 F1 G1 M1 x6 FM1 GM1 O1 H locs ls how hB1 h6 hV hD hS (lv_sub hl [2, 3, 4, 5, 6] rfl)
set_option maxHeartbeats 4000000 in
set_option maxRecDepth 100000 in
theorem cs_setSeed {p : Program} {l : Launch} {e : Env} {s : State} {m : MethodId} {args : Array Value} {below : List Frame} {meth : Method} {c : Code} {H : Heap} {locs : List Loc} {cells slots : Nat} {Q : State → Prop} {ls : Array Slot} {c0 : Cond} {D : va_G} {yy : Nat → ClassId} {Z : Nat → Prop} (hl9 : l.stackTraces = false) (oa h0 an sa L : Nat) (i : Int32) (xs : Nat → Int32) (O : Nat → Int64) (A B B2 : Nat → Nat) (F : jF) (G : jG) (F2 : jF) (G2 : jG) (M FM : jF) (GM : jG) (a1 : Int32) (hi1 : vp_in (i + 1) L) (ha1 : xs (Int32.toNatClampNeg (i + 1)) = a1) (hok : okX11_setSeed F G M a1) (hcod : (gX11_setSeed F G M a1).1 = 0 ∨ (gX11_setSeed F G M a1).1 = 2) (hth : ∀ (x6 : Int32) (FM1 : jF) (GM1 : jG), (x6, (FM1, GM1)) = (gX12_setSeed FM GM a1) → gX12_thrown FM1 GM1 = wk 2 9 9 (gX11_setSeed F G M a1).1) (hval : ∀ x st x6 st6, (gX11_setSeed F G M a1) = (0, (x, st)) → (x6, st6) = (gX12_setSeed FM GM a1) → Int32.toInt64 x = Int32.toInt64 x6) (hx : p.tables.exec = Jvm.exec) (hb : c.code = cL_law) (hml : c.maxLocals = 8) (hown : s.vm.findClass RL = some m.cls) (hts : ∀ w ∈ c0 :: wsL_law, w.before args s = true) (hV : va_P D vwCl (kW yy oa O (pV yy h0 an B B2 F G F2 G2 M) (mW yy A FM GM) sa L xs) H) (hK : va_K D vwCl (jT yy) s) (hT : jTP Z s) (hN : jNc s) (hD : va_D Z (kW yy oa O (pV yy h0 an B B2 F G F2 G2 M) (mW yy A FM GM) sa L xs)) (hS : va_S Z s.heap H locs) (hA : ∀ q, s.heap.size ≤ q → Z q) (hX0 : va_X sa L xs s s.heap) (hbl : sa < s.heap.size) (hbA : ¬ Z sa) (hl : lv_has ls 8 [(4, .int i), (3, .ref oa), (2, .ref (A 99)), (1, .ref h0), (0, .ref sa)]) (hf : cells + 9 ≤ rmLaw.cells ∧ slots + 64 ≤ rmLaw.slots)
    (kk : ∀ (B1 : Nat → Nat) (F1 : jF) (G1 : jG) (M1 : jF) (x6 : Int32) (FM1 : jF) (GM1 : jG) (O1 : Nat → Int64) (H : Heap) (locs : List Loc) (ls : Array Slot), ((∃ x, (gX11_setSeed F G M a1) = (0, (x, ((F1, G1), M1)))) ∨ ((gX11_setSeed F G M a1).1 ≠ 0 ∧ B1 = B ∧ F1 = F ∧ G1 = G ∧ M1 = M)) → (∀ k, k < 100 → B1 k = B k) → (x6, (FM1, GM1)) = (gX12_setSeed FM GM a1) → va_P D vwCl (kW yy oa O1 (pV yy h0 an B1 B2 F1 G1 F2 G2 M1) (mW yy A FM1 GM1) sa L xs) H → va_D Z (kW yy oa O1 (pV yy h0 an B1 B2 F1 G1 F2 G2 M1) (mW yy A FM1 GM1) sa L xs) → va_S Z s.heap H locs → lv_has ls 8 [(4, .int i), (3, .ref oa), (2, .ref (A 99)), (1, .ref h0), (0, .ref sa)] → W p l e rmLaw s m args below meth c H locs (cells + 9) (slots + 64) Q (F0 m 2515 ls [])) : W p l e rmLaw s m args below meth c H locs cells slots Q (F0 m 1042 ls []) := by
  refine lv_aload_n hx hb (dd_of dL_law_15 9 rfl) rfl (lv_at hl 3 rfl) ?_
  refine lv_aload_n hx hb (dd_of dL_law_15 10 rfl) rfl (lv_at hl 4 rfl) ?_
  refine lv_iload hx hb (dd_of dL_law_15 11 rfl) (lv_at hl 0 rfl) ?_
  refine lv_iconst (v := 1) hx hb (dd_of dL_law_15 12 rfl) (by decide) ?_
  refine lv_iadd hx hb (dd_of dL_law_15 13 rfl) ?_
  refine va_sld hx hb hX0 hbl hbA hS hi1 (dd_of dL_law_15 14 rfl) ?_
  rw [ha1]
  refine lv_aload_n hx hb (dd_of dL_law_15 15 rfl) rfl (lv_at hl 1 rfl) ?_
  have hq := qL_setSeed l hl9 D yy oa h0 an O B B2 F G F2 G2 M (mW yy A FM GM ++ []) H.size a1 hok hcod
  refine js_i (As := [.ref h0, .int a1, .ref oa]) (rest := []) (D := D) (yy := yy) (w := (kW yy oa O (pV yy h0 an B B2 F G F2 G2 M) (mW yy A FM GM) sa L xs)) (w1 := fun u : (((Nat → Nat) × jS) × jF) × (Nat → Int64) => kW yy oa u.2 (pV yy h0 an u.1.1.1 B2 u.1.1.2.1 u.1.1.2.2 F2 G2 u.1.2) (mW yy A FM GM) sa L xs) ⟨hx, hb, hml, hown, hts⟩ hq (vx_cwSW 3 hts (jgW gw750 gw751 gw173 gw752) rfl rfl rfl (by decide +kernel) ⟨Nat.le_of_ble_eq_true rfl, Nat.le_of_ble_eq_true rfl⟩) hV hK hT hN hD hS hA rfl hl.1 rfl (Nat.le_of_ble_eq_true rfl) (dd_of dL_law_15 16 rfl) hf (fun x5 u H locs hp hV hD hS => ?_)
  obtain ⟨⟨⟨B1, F1, G1⟩, M1⟩, O1⟩ := u
  obtain ⟨hp, hB1⟩ := hp
  have hB1 : ∀ k, k < 100 → B1 k = B k := hB1
  have hp : ((∃ x, (gX11_setSeed F G M a1) = (0, (x, ((F1, G1), M1))) ∧ x5 = 0 ∧ O1 = vp_updL O 0 (Int32.toInt64 x)) ∨ ((gX11_setSeed F G M a1).1 ≠ 0 ∧ x5 = wk 2 9 9 (gX11_setSeed F G M a1).1 ∧ (((B1, (F1, G1)), M1), O1) = (((B, (F, G)), M), O))) := hp
  have hV : va_P D vwCl (kW yy oa O1 (pV yy h0 an B1 B2 F1 G1 F2 G2 M1) (mW yy A FM GM) sa L xs) H := hV
  have hD : va_D Z (kW yy oa O1 (pV yy h0 an B1 B2 F1 G1 F2 G2 M1) (mW yy A FM GM) sa L xs) := hD
  have hk5 : x5 = wk 2 9 9 (gX11_setSeed F G M a1).1 := by
    rcases hp with ⟨x, h1, h2, _⟩ | ⟨_, h2, _⟩
    · rw [h2, h1]; rfl
    · exact h2
  refine lv_istore (lv' := [(5, .int x5), (4, .int i), (3, .ref oa), (2, .ref (A 99)), (1, .ref h0), (0, .ref sa)]) hx hb (dd_of dL_law_15 17 rfl) hl (by decide) rfl (fun ls hl => ?_)
  refine lv_aload_n hx hb (dd_of dL_law_15 18 rfl) rfl (lv_at hl 3 rfl) ?_
  refine lv_aload_n hx hb (dd_of dL_law_15 19 rfl) rfl (lv_at hl 5 rfl) ?_
  refine lv_iload hx hb (dd_of dL_law_15 20 rfl) (lv_at hl 1 rfl) ?_
  refine lv_iconst (v := 1) hx hb (dd_of dL_law_15 21 rfl) (by decide) ?_
  refine lv_iadd hx hb (dd_of dL_law_15 22 rfl) ?_
  refine va_sld hx hb hX0 hbl hbA hS hi1 (dd_of dL_law_15 23 rfl) ?_
  rw [ha1]
  refine jt_i (As := [.int a1]) (rest := []) (D := D) (yy := yy) (oa := oa) (O := O1) (P := (pV yy h0 an B1 B2 F1 G1 F2 G2 M1)) (M := mW yy A FM GM) (w1 := fun u : jS => mW yy A u.1 u.2) ⟨hx, hb, hml, hown, hts⟩ (qX12_setSeed l D yy A FM GM H.size a1) (cwV 1 hts (jgV gw757 gw758 gw759 gw5 gw760) rfl rfl rfl (by decide +kernel) ⟨Nat.le_of_ble_eq_true rfl, Nat.le_of_ble_eq_true rfl⟩) hV hK hD hS hA (va_recv hK (kW_M hV) (ci := 12) (q0 := 0) rfl rfl) rfl hl.1 rfl (Nat.le_of_ble_eq_true rfl) (dd_of dL_law_15 24 rfl) hf (fun x6 u H locs h6 hV hD hS => ?_)
  obtain ⟨FM1, GM1⟩ := u
  have h6 : (x6, (FM1, GM1)) = (gX12_setSeed FM GM a1) := h6
  have hV : va_P D vwCl (kW yy oa O1 (pV yy h0 an B1 B2 F1 G1 F2 G2 M1) (mW yy A FM1 GM1) sa L xs) H := hV
  have hD : va_D Z (kW yy oa O1 (pV yy h0 an B1 B2 F1 G1 F2 G2 M1) (mW yy A FM1 GM1) sa L xs) := hD
  refine lv_istore (lv' := [(6, .int x6), (5, .int x5), (4, .int i), (3, .ref oa), (2, .ref (A 99)), (1, .ref h0), (0, .ref sa)]) hx hb (dd_of dL_law_15 25 rfl) hl (by decide) rfl (fun ls hl => ?_)
  refine lv_aload_n hx hb (dd_of dL_law_15 26 rfl) rfl (lv_at hl 4 rfl) ?_
  refine jc_i (As := []) (rest := []) (w := mW yy A FM1 GM1) (D := D) (yy := yy) ⟨hx, hb, hml, hown, hts⟩ (qX12_thrown l D yy A FM1 GM1) (cwV 0 hts (jgV gw594 gw595 gw596 gw5 gw597) rfl rfl rfl (by decide +kernel) ⟨Nat.le_of_ble_eq_true rfl, Nat.le_of_ble_eq_true rfl⟩) (kW_M hV) hK (va_recv hK (kW_M hV) (ci := 12) (q0 := 0) rfl rfl) rfl hl.1 rfl (Nat.le_of_ble_eq_true rfl) (dd_of dL_law_15 27 rfl) hf (fun x7 e7 => ?_)
  refine lv_iload hx hb (dd_of dL_law_15 28 rfl) (lv_at hl 1 rfl) ?_
  refine lv_icmp_eq (tgt := 1078) hx hb (dd_of dL_law_15 29 rfl) (by decide) (fun c7 => ?_) (fun c7 => absurd (e7.trans ((hth _ _ _ h6).trans hk5.symm)) c7)
  have how : ((∃ x, (gX11_setSeed F G M a1) = (0, (x, ((F1, G1), M1)))) ∨ ((gX11_setSeed F G M a1).1 ≠ 0 ∧ B1 = B ∧ F1 = F ∧ G1 = G ∧ M1 = M)) := by
    rcases hp with ⟨x, h1, _, _⟩ | ⟨h1, _, h2⟩
    · exact Or.inl ⟨x, h1⟩
    · simp only [Prod.mk.injEq] at h2
      exact Or.inr ⟨h1, h2.1.1.1, h2.1.1.2.1, h2.1.1.2.2, h2.1.2⟩
  refine lv_iload hx hb (dd_of dL_law_15 32 rfl) (lv_at hl 1 rfl) ?_
  refine lv_if_ne (tgt := 1095) hx hb (dd_of dL_law_15 33 rfl) (by decide) (fun c8 => ?_) (fun c8 => ?_)
  · skip
    refine lv_goto (tgt := 2515) hx hb (dd_of dL_law_16 3 rfl) (by decide) ?_
    exact kk B1 F1 G1 M1 x6 FM1 GM1 O1 H locs ls how hB1 h6 hV hD hS (lv_sub hl [2, 3, 4, 5, 6] rfl)
  · skip
    have hO := kW_O hV
    have h9 : O1 0 = Int32.toInt64 x6 := by
      rcases hp with ⟨x, h1, _, h2⟩ | ⟨h1, h2, _⟩
      · rw [h2]; exact hval _ _ _ _ h1 h6
      · exfalso; rw [h2] at c8; rcases hcod with hq | hq <;> first | exact h1 hq | (rw [hq] at c8; exact absurd c8 (by decide))
    refine lv_aload_n hx hb (dd_of dL_law_15 34 rfl) rfl (lv_at hl 3 rfl) ?_
    refine lv_iconst (v := 0) hx hb (dd_of dL_law_15 35 rfl) (by decide) ?_
    refine va_lald hx hb hK hO 0 1 rfl rfl (vin_lit (by decide)) (dd_of dL_law_15 36 rfl) ?_
    refine lv_iload hx hb (dd_of dL_law_15 37 rfl) (lv_at hl 0 rfl) ?_
    refine lv_i2l (v := Int32.toInt64 x6) hx hb (dd_of dL_law_15 38 rfl) rfl ?_
    refine jl_eq (tgt := 1095) hx hb (dd_of dL_law_15 39 rfl) (dd_of dL_law_16 0 rfl) (by decide) (fun c10 => ?_) (fun c10 => absurd h9 c10)
    refine lv_goto (tgt := 2515) hx hb (dd_of dL_law_16 3 rfl) (by decide) ?_
    exact kk B1 F1 G1 M1 x6 FM1 GM1 O1 H locs ls how hB1 h6 hV hD hS (lv_sub hl [2, 3, 4, 5, 6] rfl)
set_option maxHeartbeats 4000000 in
set_option maxRecDepth 100000 in
theorem cs_command {p : Program} {l : Launch} {e : Env} {s : State} {m : MethodId} {args : Array Value} {below : List Frame} {meth : Method} {c : Code} {H : Heap} {locs : List Loc} {cells slots : Nat} {Q : State → Prop} {ls : Array Slot} {c0 : Cond} {D : va_G} {yy : Nat → ClassId} {Z : Nat → Prop} (hl9 : l.stackTraces = false) (oa h0 an sa L : Nat) (i : Int32) (xs : Nat → Int32) (O : Nat → Int64) (A B B2 : Nat → Nat) (F : jF) (G : jG) (F2 : jF) (G2 : jG) (M FM : jF) (GM : jG) (a1 : Int32) (hi1 : vp_in (i + 1) L) (ha1 : xs (Int32.toNatClampNeg (i + 1)) = a1) (a2 : Int32) (hi2 : vp_in (i + 2) L) (ha2 : xs (Int32.toNatClampNeg (i + 2)) = a2) (a3 : Int32) (hi3 : vp_in (i + 3) L) (ha3 : xs (Int32.toNatClampNeg (i + 3)) = a3) (hok : okX11_command F G M a1 (if a2 = 0 then (0 : Int32) else 1) a3) (hcod : (gX11_command F G M a1 (if a2 = 0 then (0 : Int32) else 1) a3).1 = 0 ∨ (gX11_command F G M a1 (if a2 = 0 then (0 : Int32) else 1) a3).1 = 1 ∨ (gX11_command F G M a1 (if a2 = 0 then (0 : Int32) else 1) a3).1 = 2) (hok12 : okX12_command FM GM a1 (if a2 = 0 then (0 : Int32) else 1) a3) (hth : ∀ (x6 : Int32) (FM1 : jF) (GM1 : jG), (x6, (FM1, GM1)) = (gX12_command FM GM a1 (if a2 = 0 then (0 : Int32) else 1) a3) → gX12_thrown FM1 GM1 = wk 1 2 9 (gX11_command F G M a1 (if a2 = 0 then (0 : Int32) else 1) a3).1) (hval : ∀ x st x6 st6, (gX11_command F G M a1 (if a2 = 0 then (0 : Int32) else 1) a3) = (0, (x, st)) → (x6, st6) = (gX12_command FM GM a1 (if a2 = 0 then (0 : Int32) else 1) a3) → Int32.toInt64 x = Int32.toInt64 x6) (hx : p.tables.exec = Jvm.exec) (hb : c.code = cL_law) (hml : c.maxLocals = 8) (hown : s.vm.findClass RL = some m.cls) (hts : ∀ w ∈ c0 :: wsL_law, w.before args s = true) (hV : va_P D vwCl (kW yy oa O (pV yy h0 an B B2 F G F2 G2 M) (mW yy A FM GM) sa L xs) H) (hK : va_K D vwCl (jT yy) s) (hT : jTP Z s) (hN : jNc s) (hD : va_D Z (kW yy oa O (pV yy h0 an B B2 F G F2 G2 M) (mW yy A FM GM) sa L xs)) (hS : va_S Z s.heap H locs) (hA : ∀ q, s.heap.size ≤ q → Z q) (hX0 : va_X sa L xs s s.heap) (hbl : sa < s.heap.size) (hbA : ¬ Z sa) (hl : lv_has ls 8 [(4, .int i), (3, .ref oa), (2, .ref (A 99)), (1, .ref h0), (0, .ref sa)]) (hf : cells + 9 ≤ rmLaw.cells ∧ slots + 64 ≤ rmLaw.slots)
    (kk : ∀ (B1 : Nat → Nat) (F1 : jF) (G1 : jG) (M1 : jF) (x6 : Int32) (FM1 : jF) (GM1 : jG) (O1 : Nat → Int64) (H : Heap) (locs : List Loc) (ls : Array Slot), ((∃ x, (gX11_command F G M a1 (if a2 = 0 then (0 : Int32) else 1) a3) = (0, (x, ((F1, G1), M1)))) ∨ ((gX11_command F G M a1 (if a2 = 0 then (0 : Int32) else 1) a3).1 ≠ 0 ∧ B1 = B ∧ F1 = F ∧ G1 = G ∧ M1 = M)) → (∀ k, k < 100 → B1 k = B k) → (x6, (FM1, GM1)) = (gX12_command FM GM a1 (if a2 = 0 then (0 : Int32) else 1) a3) → va_P D vwCl (kW yy oa O1 (pV yy h0 an B1 B2 F1 G1 F2 G2 M1) (mW yy A FM1 GM1) sa L xs) H → va_D Z (kW yy oa O1 (pV yy h0 an B1 B2 F1 G1 F2 G2 M1) (mW yy A FM1 GM1) sa L xs) → va_S Z s.heap H locs → lv_has ls 8 [(4, .int i), (3, .ref oa), (2, .ref (A 99)), (1, .ref h0), (0, .ref sa)] → W p l e rmLaw s m args below meth c H locs (cells + 9) (slots + 64) Q (F0 m 2515 ls [])) : W p l e rmLaw s m args below meth c H locs cells slots Q (F0 m 1098 ls []) := by
  refine lv_aload_n hx hb (dd_of dL_law_16 4 rfl) rfl (lv_at hl 3 rfl) ?_
  refine lv_aload_n hx hb (dd_of dL_law_16 5 rfl) rfl (lv_at hl 4 rfl) ?_
  refine lv_iload hx hb (dd_of dL_law_16 6 rfl) (lv_at hl 0 rfl) ?_
  refine lv_iconst (v := 1) hx hb (dd_of dL_law_16 7 rfl) (by decide) ?_
  refine lv_iadd hx hb (dd_of dL_law_16 8 rfl) ?_
  refine va_sld hx hb hX0 hbl hbA hS hi1 (dd_of dL_law_16 9 rfl) ?_
  rw [ha1]
  refine lv_aload_n hx hb (dd_of dL_law_16 10 rfl) rfl (lv_at hl 4 rfl) ?_
  refine lv_iload hx hb (dd_of dL_law_16 11 rfl) (lv_at hl 0 rfl) ?_
  refine lv_iconst (v := 2) hx hb (dd_of dL_law_16 12 rfl) (by decide) ?_
  refine lv_iadd hx hb (dd_of dL_law_16 13 rfl) ?_
  refine va_sld hx hb hX0 hbl hbA hS hi2 (dd_of dL_law_16 14 rfl) ?_
  rw [ha2]
  refine jn_i (ls := ls) (v := (if a2 = 0 then (0 : Int32) else 1)) 1119 [.int a1, .ref h0] (fun z9 ez9 => ?_) (fun K9 => ?_)
  rotate_left
  · refine lv_if_eq (tgt := 1118) hx hb (dd_of dL_law_16 15 rfl) (by decide) (fun c9 => ?_) (fun c9 => ?_)
    · refine lv_iconst (v := 0) hx hb (dd_of dL_law_16 18 rfl) (by decide) ?_
      exact K9 _ (if_pos c9).symm
    · refine lv_iconst (v := 1) hx hb (dd_of dL_law_16 16 rfl) (by decide) ?_
      refine lv_goto (tgt := 1119) hx hb (dd_of dL_law_16 17 rfl) (by decide) ?_
      exact K9 _ (if_neg c9).symm
  subst ez9
  refine lv_aload_n hx hb (dd_of dL_law_16 19 rfl) rfl (lv_at hl 4 rfl) ?_
  refine lv_iload hx hb (dd_of dL_law_16 20 rfl) (lv_at hl 0 rfl) ?_
  refine lv_iconst (v := 3) hx hb (dd_of dL_law_16 21 rfl) (by decide) ?_
  refine lv_iadd hx hb (dd_of dL_law_16 22 rfl) ?_
  refine va_sld hx hb hX0 hbl hbA hS hi3 (dd_of dL_law_16 23 rfl) ?_
  rw [ha3]
  refine lv_aload_n hx hb (dd_of dL_law_16 24 rfl) rfl (lv_at hl 1 rfl) ?_
  have hq := qL_command l hl9 D yy oa h0 an O B B2 F G F2 G2 M (mW yy A FM GM ++ []) H.size a1 (if a2 = 0 then (0 : Int32) else 1) a3 hok hcod
  refine js_i (As := [.ref h0, .int a1, .int (if a2 = 0 then (0 : Int32) else 1), .int a3, .ref oa]) (rest := []) (D := D) (yy := yy) (w := (kW yy oa O (pV yy h0 an B B2 F G F2 G2 M) (mW yy A FM GM) sa L xs)) (w1 := fun u : (((Nat → Nat) × jS) × jF) × (Nat → Int64) => kW yy oa u.2 (pV yy h0 an u.1.1.1 B2 u.1.1.2.1 u.1.1.2.2 F2 G2 u.1.2) (mW yy A FM GM) sa L xs) ⟨hx, hb, hml, hown, hts⟩ hq (vx_cwSW 5 hts (jgW gw761 gw762 gw173 gw763) rfl rfl rfl (by decide +kernel) ⟨Nat.le_of_ble_eq_true rfl, Nat.le_of_ble_eq_true rfl⟩) hV hK hT hN hD hS hA rfl hl.1 rfl (Nat.le_of_ble_eq_true rfl) (dd_of dL_law_16 25 rfl) hf (fun x5 u H locs hp hV hD hS => ?_)
  obtain ⟨⟨⟨B1, F1, G1⟩, M1⟩, O1⟩ := u
  obtain ⟨hp, hB1⟩ := hp
  have hB1 : ∀ k, k < 100 → B1 k = B k := hB1
  have hp : ((∃ x, (gX11_command F G M a1 (if a2 = 0 then (0 : Int32) else 1) a3) = (0, (x, ((F1, G1), M1))) ∧ x5 = 0 ∧ O1 = vp_updL O 0 (Int32.toInt64 x)) ∨ ((gX11_command F G M a1 (if a2 = 0 then (0 : Int32) else 1) a3).1 ≠ 0 ∧ x5 = wk 1 2 9 (gX11_command F G M a1 (if a2 = 0 then (0 : Int32) else 1) a3).1 ∧ (((B1, (F1, G1)), M1), O1) = (((B, (F, G)), M), O))) := hp
  have hV : va_P D vwCl (kW yy oa O1 (pV yy h0 an B1 B2 F1 G1 F2 G2 M1) (mW yy A FM GM) sa L xs) H := hV
  have hD : va_D Z (kW yy oa O1 (pV yy h0 an B1 B2 F1 G1 F2 G2 M1) (mW yy A FM GM) sa L xs) := hD
  have hk5 : x5 = wk 1 2 9 (gX11_command F G M a1 (if a2 = 0 then (0 : Int32) else 1) a3).1 := by
    rcases hp with ⟨x, h1, h2, _⟩ | ⟨_, h2, _⟩
    · rw [h2, h1]; rfl
    · exact h2
  refine lv_istore (lv' := [(5, .int x5), (4, .int i), (3, .ref oa), (2, .ref (A 99)), (1, .ref h0), (0, .ref sa)]) hx hb (dd_of dL_law_16 26 rfl) hl (by decide) rfl (fun ls hl => ?_)
  refine lv_aload_n hx hb (dd_of dL_law_16 27 rfl) rfl (lv_at hl 3 rfl) ?_
  refine lv_aload_n hx hb (dd_of dL_law_16 28 rfl) rfl (lv_at hl 5 rfl) ?_
  refine lv_iload hx hb (dd_of dL_law_16 29 rfl) (lv_at hl 1 rfl) ?_
  refine lv_iconst (v := 1) hx hb (dd_of dL_law_16 30 rfl) (by decide) ?_
  refine lv_iadd hx hb (dd_of dL_law_16 31 rfl) ?_
  refine va_sld hx hb hX0 hbl hbA hS hi1 (dd_of dL_law_16 32 rfl) ?_
  rw [ha1]
  refine lv_aload_n hx hb (dd_of dL_law_16 33 rfl) rfl (lv_at hl 5 rfl) ?_
  refine lv_iload hx hb (dd_of dL_law_16 34 rfl) (lv_at hl 1 rfl) ?_
  refine lv_iconst (v := 2) hx hb (dd_of dL_law_16 35 rfl) (by decide) ?_
  refine lv_iadd hx hb (dd_of dL_law_16 36 rfl) ?_
  refine va_sld hx hb hX0 hbl hbA hS hi2 (dd_of dL_law_16 37 rfl) ?_
  rw [ha2]
  refine jn_i (ls := ls) (v := (if a2 = 0 then (0 : Int32) else 1)) 1152 [.int a1, .ref (A 99)] (fun z9 ez9 => ?_) (fun K9 => ?_)
  rotate_left
  · refine lv_if_eq (tgt := 1151) hx hb (dd_of dL_law_16 38 rfl) (by decide) (fun c9 => ?_) (fun c9 => ?_)
    · refine lv_iconst (v := 0) hx hb (dd_of dL_law_17 1 rfl) (by decide) ?_
      exact K9 _ (if_pos c9).symm
    · refine lv_iconst (v := 1) hx hb (dd_of dL_law_16 39 rfl) (by decide) ?_
      refine lv_goto (tgt := 1152) hx hb (dd_of dL_law_17 0 rfl) (by decide) ?_
      exact K9 _ (if_neg c9).symm
  subst ez9
  refine lv_aload_n hx hb (dd_of dL_law_17 2 rfl) rfl (lv_at hl 5 rfl) ?_
  refine lv_iload hx hb (dd_of dL_law_17 3 rfl) (lv_at hl 1 rfl) ?_
  refine lv_iconst (v := 3) hx hb (dd_of dL_law_17 4 rfl) (by decide) ?_
  refine lv_iadd hx hb (dd_of dL_law_17 5 rfl) ?_
  refine va_sld hx hb hX0 hbl hbA hS hi3 (dd_of dL_law_17 6 rfl) ?_
  rw [ha3]
  refine jt_i (As := [.int a1, .int (if a2 = 0 then (0 : Int32) else 1), .int a3]) (rest := []) (D := D) (yy := yy) (oa := oa) (O := O1) (P := (pV yy h0 an B1 B2 F1 G1 F2 G2 M1)) (M := mW yy A FM GM) (w1 := fun u : jS => mW yy A u.1 u.2) ⟨hx, hb, hml, hown, hts⟩ (qX12_command l D yy A FM GM H.size a1 (if a2 = 0 then (0 : Int32) else 1) a3 hok12) (cwV 3 hts (jgV gw773 gw774 gw775 gw5 gw776) rfl rfl rfl (by decide +kernel) ⟨Nat.le_of_ble_eq_true rfl, Nat.le_of_ble_eq_true rfl⟩) hV hK hD hS hA (va_recv hK (kW_M hV) (ci := 12) (q0 := 0) rfl rfl) rfl hl.1 rfl (Nat.le_of_ble_eq_true rfl) (dd_of dL_law_17 7 rfl) hf (fun x6 u H locs h6 hV hD hS => ?_)
  obtain ⟨FM1, GM1⟩ := u
  have h6 : (x6, (FM1, GM1)) = (gX12_command FM GM a1 (if a2 = 0 then (0 : Int32) else 1) a3) := h6
  have hV : va_P D vwCl (kW yy oa O1 (pV yy h0 an B1 B2 F1 G1 F2 G2 M1) (mW yy A FM1 GM1) sa L xs) H := hV
  have hD : va_D Z (kW yy oa O1 (pV yy h0 an B1 B2 F1 G1 F2 G2 M1) (mW yy A FM1 GM1) sa L xs) := hD
  refine lv_istore (lv' := [(6, .int x6), (5, .int x5), (4, .int i), (3, .ref oa), (2, .ref (A 99)), (1, .ref h0), (0, .ref sa)]) hx hb (dd_of dL_law_17 8 rfl) hl (by decide) rfl (fun ls hl => ?_)
  refine lv_aload_n hx hb (dd_of dL_law_17 9 rfl) rfl (lv_at hl 4 rfl) ?_
  refine jc_i (As := []) (rest := []) (w := mW yy A FM1 GM1) (D := D) (yy := yy) ⟨hx, hb, hml, hown, hts⟩ (qX12_thrown l D yy A FM1 GM1) (cwV 0 hts (jgV gw594 gw595 gw596 gw5 gw597) rfl rfl rfl (by decide +kernel) ⟨Nat.le_of_ble_eq_true rfl, Nat.le_of_ble_eq_true rfl⟩) (kW_M hV) hK (va_recv hK (kW_M hV) (ci := 12) (q0 := 0) rfl rfl) rfl hl.1 rfl (Nat.le_of_ble_eq_true rfl) (dd_of dL_law_17 10 rfl) hf (fun x7 e7 => ?_)
  refine lv_iload hx hb (dd_of dL_law_17 11 rfl) (lv_at hl 1 rfl) ?_
  refine lv_icmp_eq (tgt := 1174) hx hb (dd_of dL_law_17 12 rfl) (by decide) (fun c7 => ?_) (fun c7 => absurd (e7.trans ((hth _ _ _ h6).trans hk5.symm)) c7)
  have how : ((∃ x, (gX11_command F G M a1 (if a2 = 0 then (0 : Int32) else 1) a3) = (0, (x, ((F1, G1), M1)))) ∨ ((gX11_command F G M a1 (if a2 = 0 then (0 : Int32) else 1) a3).1 ≠ 0 ∧ B1 = B ∧ F1 = F ∧ G1 = G ∧ M1 = M)) := by
    rcases hp with ⟨x, h1, _, _⟩ | ⟨h1, _, h2⟩
    · exact Or.inl ⟨x, h1⟩
    · simp only [Prod.mk.injEq] at h2
      exact Or.inr ⟨h1, h2.1.1.1, h2.1.1.2.1, h2.1.1.2.2, h2.1.2⟩
  refine lv_iload hx hb (dd_of dL_law_17 15 rfl) (lv_at hl 1 rfl) ?_
  refine lv_if_ne (tgt := 1191) hx hb (dd_of dL_law_17 16 rfl) (by decide) (fun c8 => ?_) (fun c8 => ?_)
  · skip
    refine lv_goto (tgt := 2515) hx hb (dd_of dL_law_17 26 rfl) (by decide) ?_
    exact kk B1 F1 G1 M1 x6 FM1 GM1 O1 H locs ls how hB1 h6 hV hD hS (lv_sub hl [2, 3, 4, 5, 6] rfl)
  · skip
    have hO := kW_O hV
    have h9 : O1 0 = Int32.toInt64 x6 := by
      rcases hp with ⟨x, h1, _, h2⟩ | ⟨h1, h2, _⟩
      · rw [h2]; exact hval _ _ _ _ h1 h6
      · exfalso; rw [h2] at c8; rcases hcod with hq | hq | hq <;> first | exact h1 hq | (rw [hq] at c8; exact absurd c8 (by decide))
    refine lv_aload_n hx hb (dd_of dL_law_17 17 rfl) rfl (lv_at hl 3 rfl) ?_
    refine lv_iconst (v := 0) hx hb (dd_of dL_law_17 18 rfl) (by decide) ?_
    refine va_lald hx hb hK hO 0 1 rfl rfl (vin_lit (by decide)) (dd_of dL_law_17 19 rfl) ?_
    refine lv_iload hx hb (dd_of dL_law_17 20 rfl) (lv_at hl 0 rfl) ?_
    refine lv_i2l (v := Int32.toInt64 x6) hx hb (dd_of dL_law_17 21 rfl) rfl ?_
    refine jl_eq (tgt := 1191) hx hb (dd_of dL_law_17 22 rfl) (dd_of dL_law_17 23 rfl) (by decide) (fun c10 => ?_) (fun c10 => absurd h9 c10)
    refine lv_goto (tgt := 2515) hx hb (dd_of dL_law_17 26 rfl) (by decide) ?_
    exact kk B1 F1 G1 M1 x6 FM1 GM1 O1 H locs ls how hB1 h6 hV hD hS (lv_sub hl [2, 3, 4, 5, 6] rfl)
set_option maxHeartbeats 4000000 in
set_option maxRecDepth 100000 in
theorem cs_drive {p : Program} {l : Launch} {e : Env} {s : State} {m : MethodId} {args : Array Value} {below : List Frame} {meth : Method} {c : Code} {H : Heap} {locs : List Loc} {cells slots : Nat} {Q : State → Prop} {ls : Array Slot} {c0 : Cond} {D : va_G} {yy : Nat → ClassId} {Z : Nat → Prop} (hl9 : l.stackTraces = false) (oa h0 an sa L : Nat) (i : Int32) (xs : Nat → Int32) (O : Nat → Int64) (A B B2 : Nat → Nat) (F : jF) (G : jG) (F2 : jF) (G2 : jG) (M FM : jF) (GM : jG) (a1 : Int32) (hi1 : vp_in (i + 1) L) (ha1 : xs (Int32.toNatClampNeg (i + 1)) = a1) (a2 : Int32) (hi2 : vp_in (i + 2) L) (ha2 : xs (Int32.toNatClampNeg (i + 2)) = a2) (a3 : Int32) (hi3 : vp_in (i + 3) L) (ha3 : xs (Int32.toNatClampNeg (i + 3)) = a3) (hok : okX11_drive F G M a1 (if a2 = 0 then (0 : Int32) else 1) a3) (hcod : (gX11_drive F G M a1 (if a2 = 0 then (0 : Int32) else 1) a3).1 = 0 ∨ (gX11_drive F G M a1 (if a2 = 0 then (0 : Int32) else 1) a3).1 = 1 ∨ (gX11_drive F G M a1 (if a2 = 0 then (0 : Int32) else 1) a3).1 = 2 ∨ (gX11_drive F G M a1 (if a2 = 0 then (0 : Int32) else 1) a3).1 = 3) (hok12 : okX12_drive FM GM a1 (if a2 = 0 then (0 : Int32) else 1) a3) (hth : ∀ (x6 : Int32) (FM1 : jF) (GM1 : jG), (x6, (FM1, GM1)) = (gX12_drive FM GM a1 (if a2 = 0 then (0 : Int32) else 1) a3) → gX12_thrown FM1 GM1 = wk 1 2 3 (gX11_drive F G M a1 (if a2 = 0 then (0 : Int32) else 1) a3).1) (hval : ∀ x st x6 st6, (gX11_drive F G M a1 (if a2 = 0 then (0 : Int32) else 1) a3) = (0, (x, st)) → (x6, st6) = (gX12_drive FM GM a1 (if a2 = 0 then (0 : Int32) else 1) a3) → Int32.toInt64 x = Int32.toInt64 x6) (hx : p.tables.exec = Jvm.exec) (hb : c.code = cL_law) (hml : c.maxLocals = 8) (hown : s.vm.findClass RL = some m.cls) (hts : ∀ w ∈ c0 :: wsL_law, w.before args s = true) (hV : va_P D vwCl (kW yy oa O (pV yy h0 an B B2 F G F2 G2 M) (mW yy A FM GM) sa L xs) H) (hK : va_K D vwCl (jT yy) s) (hT : jTP Z s) (hN : jNc s) (hD : va_D Z (kW yy oa O (pV yy h0 an B B2 F G F2 G2 M) (mW yy A FM GM) sa L xs)) (hS : va_S Z s.heap H locs) (hA : ∀ q, s.heap.size ≤ q → Z q) (hX0 : va_X sa L xs s s.heap) (hbl : sa < s.heap.size) (hbA : ¬ Z sa) (hl : lv_has ls 8 [(4, .int i), (3, .ref oa), (2, .ref (A 99)), (1, .ref h0), (0, .ref sa)]) (hf : cells + 9 ≤ rmLaw.cells ∧ slots + 64 ≤ rmLaw.slots)
    (kk : ∀ (B1 : Nat → Nat) (F1 : jF) (G1 : jG) (M1 : jF) (x6 : Int32) (FM1 : jF) (GM1 : jG) (O1 : Nat → Int64) (H : Heap) (locs : List Loc) (ls : Array Slot), ((∃ x, (gX11_drive F G M a1 (if a2 = 0 then (0 : Int32) else 1) a3) = (0, (x, ((F1, G1), M1)))) ∨ ((gX11_drive F G M a1 (if a2 = 0 then (0 : Int32) else 1) a3).1 ≠ 0 ∧ B1 = B ∧ F1 = F ∧ G1 = G ∧ M1 = M)) → (∀ k, k < 100 → B1 k = B k) → (x6, (FM1, GM1)) = (gX12_drive FM GM a1 (if a2 = 0 then (0 : Int32) else 1) a3) → va_P D vwCl (kW yy oa O1 (pV yy h0 an B1 B2 F1 G1 F2 G2 M1) (mW yy A FM1 GM1) sa L xs) H → va_D Z (kW yy oa O1 (pV yy h0 an B1 B2 F1 G1 F2 G2 M1) (mW yy A FM1 GM1) sa L xs) → va_S Z s.heap H locs → lv_has ls 8 [(4, .int i), (3, .ref oa), (2, .ref (A 99)), (1, .ref h0), (0, .ref sa)] → W p l e rmLaw s m args below meth c H locs (cells + 9) (slots + 64) Q (F0 m 2515 ls [])) : W p l e rmLaw s m args below meth c H locs cells slots Q (F0 m 1194 ls []) := by
  refine lv_aload_n hx hb (dd_of dL_law_17 27 rfl) rfl (lv_at hl 3 rfl) ?_
  refine lv_aload_n hx hb (dd_of dL_law_17 28 rfl) rfl (lv_at hl 4 rfl) ?_
  refine lv_iload hx hb (dd_of dL_law_17 29 rfl) (lv_at hl 0 rfl) ?_
  refine lv_iconst (v := 1) hx hb (dd_of dL_law_17 30 rfl) (by decide) ?_
  refine lv_iadd hx hb (dd_of dL_law_17 31 rfl) ?_
  refine va_sld hx hb hX0 hbl hbA hS hi1 (dd_of dL_law_17 32 rfl) ?_
  rw [ha1]
  refine lv_aload_n hx hb (dd_of dL_law_17 33 rfl) rfl (lv_at hl 4 rfl) ?_
  refine lv_iload hx hb (dd_of dL_law_17 34 rfl) (lv_at hl 0 rfl) ?_
  refine lv_iconst (v := 2) hx hb (dd_of dL_law_17 35 rfl) (by decide) ?_
  refine lv_iadd hx hb (dd_of dL_law_17 36 rfl) ?_
  refine va_sld hx hb hX0 hbl hbA hS hi2 (dd_of dL_law_17 37 rfl) ?_
  rw [ha2]
  refine jn_i (ls := ls) (v := (if a2 = 0 then (0 : Int32) else 1)) 1215 [.int a1, .ref h0] (fun z9 ez9 => ?_) (fun K9 => ?_)
  rotate_left
  · refine lv_if_eq (tgt := 1214) hx hb (dd_of dL_law_17 38 rfl) (by decide) (fun c9 => ?_) (fun c9 => ?_)
    · refine lv_iconst (v := 0) hx hb (dd_of dL_law_18 1 rfl) (by decide) ?_
      exact K9 _ (if_pos c9).symm
    · refine lv_iconst (v := 1) hx hb (dd_of dL_law_17 39 rfl) (by decide) ?_
      refine lv_goto (tgt := 1215) hx hb (dd_of dL_law_18 0 rfl) (by decide) ?_
      exact K9 _ (if_neg c9).symm
  subst ez9
  refine lv_aload_n hx hb (dd_of dL_law_18 2 rfl) rfl (lv_at hl 4 rfl) ?_
  refine lv_iload hx hb (dd_of dL_law_18 3 rfl) (lv_at hl 0 rfl) ?_
  refine lv_iconst (v := 3) hx hb (dd_of dL_law_18 4 rfl) (by decide) ?_
  refine lv_iadd hx hb (dd_of dL_law_18 5 rfl) ?_
  refine va_sld hx hb hX0 hbl hbA hS hi3 (dd_of dL_law_18 6 rfl) ?_
  rw [ha3]
  refine lv_aload_n hx hb (dd_of dL_law_18 7 rfl) rfl (lv_at hl 1 rfl) ?_
  have hq := qL_drive l hl9 D yy oa h0 an O B B2 F G F2 G2 M (mW yy A FM GM ++ []) H.size a1 (if a2 = 0 then (0 : Int32) else 1) a3 hok hcod
  refine js_i (As := [.ref h0, .int a1, .int (if a2 = 0 then (0 : Int32) else 1), .int a3, .ref oa]) (rest := []) (D := D) (yy := yy) (w := (kW yy oa O (pV yy h0 an B B2 F G F2 G2 M) (mW yy A FM GM) sa L xs)) (w1 := fun u : (((Nat → Nat) × jS) × jF) × (Nat → Int64) => kW yy oa u.2 (pV yy h0 an u.1.1.1 B2 u.1.1.2.1 u.1.1.2.2 F2 G2 u.1.2) (mW yy A FM GM) sa L xs) ⟨hx, hb, hml, hown, hts⟩ hq (vx_cwSW 5 hts (jgW gw792 gw793 gw173 gw794) rfl rfl rfl (by decide +kernel) ⟨Nat.le_of_ble_eq_true rfl, Nat.le_of_ble_eq_true rfl⟩) hV hK hT hN hD hS hA rfl hl.1 rfl (Nat.le_of_ble_eq_true rfl) (dd_of dL_law_18 8 rfl) hf (fun x5 u H locs hp hV hD hS => ?_)
  obtain ⟨⟨⟨B1, F1, G1⟩, M1⟩, O1⟩ := u
  obtain ⟨hp, hB1⟩ := hp
  have hB1 : ∀ k, k < 100 → B1 k = B k := hB1
  have hp : ((∃ x, (gX11_drive F G M a1 (if a2 = 0 then (0 : Int32) else 1) a3) = (0, (x, ((F1, G1), M1))) ∧ x5 = 0 ∧ O1 = vp_updL O 0 (Int32.toInt64 x)) ∨ ((gX11_drive F G M a1 (if a2 = 0 then (0 : Int32) else 1) a3).1 ≠ 0 ∧ x5 = wk 1 2 3 (gX11_drive F G M a1 (if a2 = 0 then (0 : Int32) else 1) a3).1 ∧ (((B1, (F1, G1)), M1), O1) = (((B, (F, G)), M), O))) := hp
  have hV : va_P D vwCl (kW yy oa O1 (pV yy h0 an B1 B2 F1 G1 F2 G2 M1) (mW yy A FM GM) sa L xs) H := hV
  have hD : va_D Z (kW yy oa O1 (pV yy h0 an B1 B2 F1 G1 F2 G2 M1) (mW yy A FM GM) sa L xs) := hD
  have hk5 : x5 = wk 1 2 3 (gX11_drive F G M a1 (if a2 = 0 then (0 : Int32) else 1) a3).1 := by
    rcases hp with ⟨x, h1, h2, _⟩ | ⟨_, h2, _⟩
    · rw [h2, h1]; rfl
    · exact h2
  refine lv_istore (lv' := [(5, .int x5), (4, .int i), (3, .ref oa), (2, .ref (A 99)), (1, .ref h0), (0, .ref sa)]) hx hb (dd_of dL_law_18 9 rfl) hl (by decide) rfl (fun ls hl => ?_)
  refine lv_aload_n hx hb (dd_of dL_law_18 10 rfl) rfl (lv_at hl 3 rfl) ?_
  refine lv_aload_n hx hb (dd_of dL_law_18 11 rfl) rfl (lv_at hl 5 rfl) ?_
  refine lv_iload hx hb (dd_of dL_law_18 12 rfl) (lv_at hl 1 rfl) ?_
  refine lv_iconst (v := 1) hx hb (dd_of dL_law_18 13 rfl) (by decide) ?_
  refine lv_iadd hx hb (dd_of dL_law_18 14 rfl) ?_
  refine va_sld hx hb hX0 hbl hbA hS hi1 (dd_of dL_law_18 15 rfl) ?_
  rw [ha1]
  refine lv_aload_n hx hb (dd_of dL_law_18 16 rfl) rfl (lv_at hl 5 rfl) ?_
  refine lv_iload hx hb (dd_of dL_law_18 17 rfl) (lv_at hl 1 rfl) ?_
  refine lv_iconst (v := 2) hx hb (dd_of dL_law_18 18 rfl) (by decide) ?_
  refine lv_iadd hx hb (dd_of dL_law_18 19 rfl) ?_
  refine va_sld hx hb hX0 hbl hbA hS hi2 (dd_of dL_law_18 20 rfl) ?_
  rw [ha2]
  refine jn_i (ls := ls) (v := (if a2 = 0 then (0 : Int32) else 1)) 1248 [.int a1, .ref (A 99)] (fun z9 ez9 => ?_) (fun K9 => ?_)
  rotate_left
  · refine lv_if_eq (tgt := 1247) hx hb (dd_of dL_law_18 21 rfl) (by decide) (fun c9 => ?_) (fun c9 => ?_)
    · refine lv_iconst (v := 0) hx hb (dd_of dL_law_18 24 rfl) (by decide) ?_
      exact K9 _ (if_pos c9).symm
    · refine lv_iconst (v := 1) hx hb (dd_of dL_law_18 22 rfl) (by decide) ?_
      refine lv_goto (tgt := 1248) hx hb (dd_of dL_law_18 23 rfl) (by decide) ?_
      exact K9 _ (if_neg c9).symm
  subst ez9
  refine lv_aload_n hx hb (dd_of dL_law_18 25 rfl) rfl (lv_at hl 5 rfl) ?_
  refine lv_iload hx hb (dd_of dL_law_18 26 rfl) (lv_at hl 1 rfl) ?_
  refine lv_iconst (v := 3) hx hb (dd_of dL_law_18 27 rfl) (by decide) ?_
  refine lv_iadd hx hb (dd_of dL_law_18 28 rfl) ?_
  refine va_sld hx hb hX0 hbl hbA hS hi3 (dd_of dL_law_18 29 rfl) ?_
  rw [ha3]
  refine jt_i (As := [.int a1, .int (if a2 = 0 then (0 : Int32) else 1), .int a3]) (rest := []) (D := D) (yy := yy) (oa := oa) (O := O1) (P := (pV yy h0 an B1 B2 F1 G1 F2 G2 M1)) (M := mW yy A FM GM) (w1 := fun u : jS => mW yy A u.1 u.2) ⟨hx, hb, hml, hown, hts⟩ (qX12_drive l D yy A FM GM H.size a1 (if a2 = 0 then (0 : Int32) else 1) a3 hok12) (cwV 3 hts (jgV gw810 gw811 gw812 gw5 gw813) rfl rfl rfl (by decide +kernel) ⟨Nat.le_of_ble_eq_true rfl, Nat.le_of_ble_eq_true rfl⟩) hV hK hD hS hA (va_recv hK (kW_M hV) (ci := 12) (q0 := 0) rfl rfl) rfl hl.1 rfl (Nat.le_of_ble_eq_true rfl) (dd_of dL_law_18 30 rfl) hf (fun x6 u H locs h6 hV hD hS => ?_)
  obtain ⟨FM1, GM1⟩ := u
  have h6 : (x6, (FM1, GM1)) = (gX12_drive FM GM a1 (if a2 = 0 then (0 : Int32) else 1) a3) := h6
  have hV : va_P D vwCl (kW yy oa O1 (pV yy h0 an B1 B2 F1 G1 F2 G2 M1) (mW yy A FM1 GM1) sa L xs) H := hV
  have hD : va_D Z (kW yy oa O1 (pV yy h0 an B1 B2 F1 G1 F2 G2 M1) (mW yy A FM1 GM1) sa L xs) := hD
  refine lv_istore (lv' := [(6, .int x6), (5, .int x5), (4, .int i), (3, .ref oa), (2, .ref (A 99)), (1, .ref h0), (0, .ref sa)]) hx hb (dd_of dL_law_18 31 rfl) hl (by decide) rfl (fun ls hl => ?_)
  refine lv_aload_n hx hb (dd_of dL_law_18 32 rfl) rfl (lv_at hl 4 rfl) ?_
  refine jc_i (As := []) (rest := []) (w := mW yy A FM1 GM1) (D := D) (yy := yy) ⟨hx, hb, hml, hown, hts⟩ (qX12_thrown l D yy A FM1 GM1) (cwV 0 hts (jgV gw594 gw595 gw596 gw5 gw597) rfl rfl rfl (by decide +kernel) ⟨Nat.le_of_ble_eq_true rfl, Nat.le_of_ble_eq_true rfl⟩) (kW_M hV) hK (va_recv hK (kW_M hV) (ci := 12) (q0 := 0) rfl rfl) rfl hl.1 rfl (Nat.le_of_ble_eq_true rfl) (dd_of dL_law_18 33 rfl) hf (fun x7 e7 => ?_)
  refine lv_iload hx hb (dd_of dL_law_18 34 rfl) (lv_at hl 1 rfl) ?_
  refine lv_icmp_eq (tgt := 1270) hx hb (dd_of dL_law_18 35 rfl) (by decide) (fun c7 => ?_) (fun c7 => absurd (e7.trans ((hth _ _ _ h6).trans hk5.symm)) c7)
  have how : ((∃ x, (gX11_drive F G M a1 (if a2 = 0 then (0 : Int32) else 1) a3) = (0, (x, ((F1, G1), M1)))) ∨ ((gX11_drive F G M a1 (if a2 = 0 then (0 : Int32) else 1) a3).1 ≠ 0 ∧ B1 = B ∧ F1 = F ∧ G1 = G ∧ M1 = M)) := by
    rcases hp with ⟨x, h1, _, _⟩ | ⟨h1, _, h2⟩
    · exact Or.inl ⟨x, h1⟩
    · simp only [Prod.mk.injEq] at h2
      exact Or.inr ⟨h1, h2.1.1.1, h2.1.1.2.1, h2.1.1.2.2, h2.1.2⟩
  refine lv_iload hx hb (dd_of dL_law_18 38 rfl) (lv_at hl 1 rfl) ?_
  refine lv_if_ne (tgt := 1287) hx hb (dd_of dL_law_18 39 rfl) (by decide) (fun c8 => ?_) (fun c8 => ?_)
  · skip
    refine lv_goto (tgt := 2515) hx hb (dd_of dL_law_19 9 rfl) (by decide) ?_
    exact kk B1 F1 G1 M1 x6 FM1 GM1 O1 H locs ls how hB1 h6 hV hD hS (lv_sub hl [2, 3, 4, 5, 6] rfl)
  · skip
    have hO := kW_O hV
    have h9 : O1 0 = Int32.toInt64 x6 := by
      rcases hp with ⟨x, h1, _, h2⟩ | ⟨h1, h2, _⟩
      · rw [h2]; exact hval _ _ _ _ h1 h6
      · exfalso; rw [h2] at c8; rcases hcod with hq | hq | hq | hq <;> first | exact h1 hq | (rw [hq] at c8; exact absurd c8 (by decide))
    refine lv_aload_n hx hb (dd_of dL_law_19 0 rfl) rfl (lv_at hl 3 rfl) ?_
    refine lv_iconst (v := 0) hx hb (dd_of dL_law_19 1 rfl) (by decide) ?_
    refine va_lald hx hb hK hO 0 1 rfl rfl (vin_lit (by decide)) (dd_of dL_law_19 2 rfl) ?_
    refine lv_iload hx hb (dd_of dL_law_19 3 rfl) (lv_at hl 0 rfl) ?_
    refine lv_i2l (v := Int32.toInt64 x6) hx hb (dd_of dL_law_19 4 rfl) rfl ?_
    refine jl_eq (tgt := 1287) hx hb (dd_of dL_law_19 5 rfl) (dd_of dL_law_19 6 rfl) (by decide) (fun c10 => ?_) (fun c10 => absurd h9 c10)
    refine lv_goto (tgt := 2515) hx hb (dd_of dL_law_19 9 rfl) (by decide) ?_
    exact kk B1 F1 G1 M1 x6 FM1 GM1 O1 H locs ls how hB1 h6 hV hD hS (lv_sub hl [2, 3, 4, 5, 6] rfl)
set_option maxHeartbeats 4000000 in
set_option maxRecDepth 100000 in
theorem cs_mend {p : Program} {l : Launch} {e : Env} {s : State} {m : MethodId} {args : Array Value} {below : List Frame} {meth : Method} {c : Code} {H : Heap} {locs : List Loc} {cells slots : Nat} {Q : State → Prop} {ls : Array Slot} {c0 : Cond} {D : va_G} {yy : Nat → ClassId} {Z : Nat → Prop} (hl9 : l.stackTraces = false) (oa h0 an sa L : Nat) (i : Int32) (xs : Nat → Int32) (O : Nat → Int64) (A B B2 : Nat → Nat) (F : jF) (G : jG) (F2 : jF) (G2 : jG) (M FM : jF) (GM : jG) (a1 : Int32) (hi1 : vp_in (i + 1) L) (ha1 : xs (Int32.toNatClampNeg (i + 1)) = a1) (hok : okX11_mend F G M a1) (hcod : (gX11_mend F G M a1).1 = 0 ∨ (gX11_mend F G M a1).1 = 1 ∨ (gX11_mend F G M a1).1 = 3) (hok12 : okX12_mend FM GM a1) (hth : ∀ (x6 : Int32) (FM1 : jF) (GM1 : jG), (x6, (FM1, GM1)) = (gX12_mend FM GM a1) → gX12_thrown FM1 GM1 = wk 1 3 9 (gX11_mend F G M a1).1) (hval : ∀ x st x6 st6, (gX11_mend F G M a1) = (0, (x, st)) → (x6, st6) = (gX12_mend FM GM a1) → Int32.toInt64 x = Int32.toInt64 x6) (hx : p.tables.exec = Jvm.exec) (hb : c.code = cL_law) (hml : c.maxLocals = 8) (hown : s.vm.findClass RL = some m.cls) (hts : ∀ w ∈ c0 :: wsL_law, w.before args s = true) (hV : va_P D vwCl (kW yy oa O (pV yy h0 an B B2 F G F2 G2 M) (mW yy A FM GM) sa L xs) H) (hK : va_K D vwCl (jT yy) s) (hT : jTP Z s) (hN : jNc s) (hD : va_D Z (kW yy oa O (pV yy h0 an B B2 F G F2 G2 M) (mW yy A FM GM) sa L xs)) (hS : va_S Z s.heap H locs) (hA : ∀ q, s.heap.size ≤ q → Z q) (hX0 : va_X sa L xs s s.heap) (hbl : sa < s.heap.size) (hbA : ¬ Z sa) (hl : lv_has ls 8 [(4, .int i), (3, .ref oa), (2, .ref (A 99)), (1, .ref h0), (0, .ref sa)]) (hf : cells + 9 ≤ rmLaw.cells ∧ slots + 64 ≤ rmLaw.slots)
    (kk : ∀ (B1 : Nat → Nat) (F1 : jF) (G1 : jG) (M1 : jF) (x6 : Int32) (FM1 : jF) (GM1 : jG) (O1 : Nat → Int64) (H : Heap) (locs : List Loc) (ls : Array Slot), ((∃ x, (gX11_mend F G M a1) = (0, (x, ((F1, G1), M1)))) ∨ ((gX11_mend F G M a1).1 ≠ 0 ∧ B1 = B ∧ F1 = F ∧ G1 = G ∧ M1 = M)) → (∀ k, k < 100 → B1 k = B k) → (x6, (FM1, GM1)) = (gX12_mend FM GM a1) → va_P D vwCl (kW yy oa O1 (pV yy h0 an B1 B2 F1 G1 F2 G2 M1) (mW yy A FM1 GM1) sa L xs) H → va_D Z (kW yy oa O1 (pV yy h0 an B1 B2 F1 G1 F2 G2 M1) (mW yy A FM1 GM1) sa L xs) → va_S Z s.heap H locs → lv_has ls 8 [(4, .int i), (3, .ref oa), (2, .ref (A 99)), (1, .ref h0), (0, .ref sa)] → W p l e rmLaw s m args below meth c H locs (cells + 9) (slots + 64) Q (F0 m 2515 ls [])) : W p l e rmLaw s m args below meth c H locs cells slots Q (F0 m 1290 ls []) := by
  refine lv_aload_n hx hb (dd_of dL_law_19 10 rfl) rfl (lv_at hl 3 rfl) ?_
  refine lv_aload_n hx hb (dd_of dL_law_19 11 rfl) rfl (lv_at hl 4 rfl) ?_
  refine lv_iload hx hb (dd_of dL_law_19 12 rfl) (lv_at hl 0 rfl) ?_
  refine lv_iconst (v := 1) hx hb (dd_of dL_law_19 13 rfl) (by decide) ?_
  refine lv_iadd hx hb (dd_of dL_law_19 14 rfl) ?_
  refine va_sld hx hb hX0 hbl hbA hS hi1 (dd_of dL_law_19 15 rfl) ?_
  rw [ha1]
  refine lv_aload_n hx hb (dd_of dL_law_19 16 rfl) rfl (lv_at hl 1 rfl) ?_
  have hq := qL_mend l hl9 D yy oa h0 an O B B2 F G F2 G2 M (mW yy A FM GM ++ []) H.size a1 hok hcod
  refine js_i (As := [.ref h0, .int a1, .ref oa]) (rest := []) (D := D) (yy := yy) (w := (kW yy oa O (pV yy h0 an B B2 F G F2 G2 M) (mW yy A FM GM) sa L xs)) (w1 := fun u : (((Nat → Nat) × jS) × jF) × (Nat → Int64) => kW yy oa u.2 (pV yy h0 an u.1.1.1 B2 u.1.1.2.1 u.1.1.2.2 F2 G2 u.1.2) (mW yy A FM GM) sa L xs) ⟨hx, hb, hml, hown, hts⟩ hq (vx_cwSW 3 hts (jgW gw815 gw816 gw173 gw817) rfl rfl rfl (by decide +kernel) ⟨Nat.le_of_ble_eq_true rfl, Nat.le_of_ble_eq_true rfl⟩) hV hK hT hN hD hS hA rfl hl.1 rfl (Nat.le_of_ble_eq_true rfl) (dd_of dL_law_19 17 rfl) hf (fun x5 u H locs hp hV hD hS => ?_)
  obtain ⟨⟨⟨B1, F1, G1⟩, M1⟩, O1⟩ := u
  obtain ⟨hp, hB1⟩ := hp
  have hB1 : ∀ k, k < 100 → B1 k = B k := hB1
  have hp : ((∃ x, (gX11_mend F G M a1) = (0, (x, ((F1, G1), M1))) ∧ x5 = 0 ∧ O1 = vp_updL O 0 (Int32.toInt64 x)) ∨ ((gX11_mend F G M a1).1 ≠ 0 ∧ x5 = wk 1 3 9 (gX11_mend F G M a1).1 ∧ (((B1, (F1, G1)), M1), O1) = (((B, (F, G)), M), O))) := hp
  have hV : va_P D vwCl (kW yy oa O1 (pV yy h0 an B1 B2 F1 G1 F2 G2 M1) (mW yy A FM GM) sa L xs) H := hV
  have hD : va_D Z (kW yy oa O1 (pV yy h0 an B1 B2 F1 G1 F2 G2 M1) (mW yy A FM GM) sa L xs) := hD
  have hk5 : x5 = wk 1 3 9 (gX11_mend F G M a1).1 := by
    rcases hp with ⟨x, h1, h2, _⟩ | ⟨_, h2, _⟩
    · rw [h2, h1]; rfl
    · exact h2
  refine lv_istore (lv' := [(5, .int x5), (4, .int i), (3, .ref oa), (2, .ref (A 99)), (1, .ref h0), (0, .ref sa)]) hx hb (dd_of dL_law_19 18 rfl) hl (by decide) rfl (fun ls hl => ?_)
  refine lv_aload_n hx hb (dd_of dL_law_19 19 rfl) rfl (lv_at hl 3 rfl) ?_
  refine lv_aload_n hx hb (dd_of dL_law_19 20 rfl) rfl (lv_at hl 5 rfl) ?_
  refine lv_iload hx hb (dd_of dL_law_19 21 rfl) (lv_at hl 1 rfl) ?_
  refine lv_iconst (v := 1) hx hb (dd_of dL_law_19 22 rfl) (by decide) ?_
  refine lv_iadd hx hb (dd_of dL_law_19 23 rfl) ?_
  refine va_sld hx hb hX0 hbl hbA hS hi1 (dd_of dL_law_19 24 rfl) ?_
  rw [ha1]
  refine jt_i (As := [.int a1]) (rest := []) (D := D) (yy := yy) (oa := oa) (O := O1) (P := (pV yy h0 an B1 B2 F1 G1 F2 G2 M1)) (M := mW yy A FM GM) (w1 := fun u : jS => mW yy A u.1 u.2) ⟨hx, hb, hml, hown, hts⟩ (qX12_mend l D yy A FM GM H.size a1 hok12) (cwV 1 hts (jgV gw822 gw823 gw824 gw5 gw825) rfl rfl rfl (by decide +kernel) ⟨Nat.le_of_ble_eq_true rfl, Nat.le_of_ble_eq_true rfl⟩) hV hK hD hS hA (va_recv hK (kW_M hV) (ci := 12) (q0 := 0) rfl rfl) rfl hl.1 rfl (Nat.le_of_ble_eq_true rfl) (dd_of dL_law_19 25 rfl) hf (fun x6 u H locs h6 hV hD hS => ?_)
  obtain ⟨FM1, GM1⟩ := u
  have h6 : (x6, (FM1, GM1)) = (gX12_mend FM GM a1) := h6
  have hV : va_P D vwCl (kW yy oa O1 (pV yy h0 an B1 B2 F1 G1 F2 G2 M1) (mW yy A FM1 GM1) sa L xs) H := hV
  have hD : va_D Z (kW yy oa O1 (pV yy h0 an B1 B2 F1 G1 F2 G2 M1) (mW yy A FM1 GM1) sa L xs) := hD
  refine lv_istore (lv' := [(6, .int x6), (5, .int x5), (4, .int i), (3, .ref oa), (2, .ref (A 99)), (1, .ref h0), (0, .ref sa)]) hx hb (dd_of dL_law_19 26 rfl) hl (by decide) rfl (fun ls hl => ?_)
  refine lv_aload_n hx hb (dd_of dL_law_19 27 rfl) rfl (lv_at hl 4 rfl) ?_
  refine jc_i (As := []) (rest := []) (w := mW yy A FM1 GM1) (D := D) (yy := yy) ⟨hx, hb, hml, hown, hts⟩ (qX12_thrown l D yy A FM1 GM1) (cwV 0 hts (jgV gw594 gw595 gw596 gw5 gw597) rfl rfl rfl (by decide +kernel) ⟨Nat.le_of_ble_eq_true rfl, Nat.le_of_ble_eq_true rfl⟩) (kW_M hV) hK (va_recv hK (kW_M hV) (ci := 12) (q0 := 0) rfl rfl) rfl hl.1 rfl (Nat.le_of_ble_eq_true rfl) (dd_of dL_law_19 28 rfl) hf (fun x7 e7 => ?_)
  refine lv_iload hx hb (dd_of dL_law_19 29 rfl) (lv_at hl 1 rfl) ?_
  refine lv_icmp_eq (tgt := 1326) hx hb (dd_of dL_law_19 30 rfl) (by decide) (fun c7 => ?_) (fun c7 => absurd (e7.trans ((hth _ _ _ h6).trans hk5.symm)) c7)
  have how : ((∃ x, (gX11_mend F G M a1) = (0, (x, ((F1, G1), M1)))) ∨ ((gX11_mend F G M a1).1 ≠ 0 ∧ B1 = B ∧ F1 = F ∧ G1 = G ∧ M1 = M)) := by
    rcases hp with ⟨x, h1, _, _⟩ | ⟨h1, _, h2⟩
    · exact Or.inl ⟨x, h1⟩
    · simp only [Prod.mk.injEq] at h2
      exact Or.inr ⟨h1, h2.1.1.1, h2.1.1.2.1, h2.1.1.2.2, h2.1.2⟩
  refine lv_iload hx hb (dd_of dL_law_19 33 rfl) (lv_at hl 1 rfl) ?_
  refine lv_if_ne (tgt := 1343) hx hb (dd_of dL_law_19 34 rfl) (by decide) (fun c8 => ?_) (fun c8 => ?_)
  · skip
    refine lv_goto (tgt := 2515) hx hb (dd_of dL_law_20 4 rfl) (by decide) ?_
    exact kk B1 F1 G1 M1 x6 FM1 GM1 O1 H locs ls how hB1 h6 hV hD hS (lv_sub hl [2, 3, 4, 5, 6] rfl)
  · skip
    have hO := kW_O hV
    have h9 : O1 0 = Int32.toInt64 x6 := by
      rcases hp with ⟨x, h1, _, h2⟩ | ⟨h1, h2, _⟩
      · rw [h2]; exact hval _ _ _ _ h1 h6
      · exfalso; rw [h2] at c8; rcases hcod with hq | hq | hq <;> first | exact h1 hq | (rw [hq] at c8; exact absurd c8 (by decide))
    refine lv_aload_n hx hb (dd_of dL_law_19 35 rfl) rfl (lv_at hl 3 rfl) ?_
    refine lv_iconst (v := 0) hx hb (dd_of dL_law_19 36 rfl) (by decide) ?_
    refine va_lald hx hb hK hO 0 1 rfl rfl (vin_lit (by decide)) (dd_of dL_law_19 37 rfl) ?_
    refine lv_iload hx hb (dd_of dL_law_19 38 rfl) (lv_at hl 0 rfl) ?_
    refine lv_i2l (v := Int32.toInt64 x6) hx hb (dd_of dL_law_19 39 rfl) rfl ?_
    refine jl_eq (tgt := 1343) hx hb (dd_of dL_law_20 0 rfl) (dd_of dL_law_20 1 rfl) (by decide) (fun c10 => ?_) (fun c10 => absurd h9 c10)
    refine lv_goto (tgt := 2515) hx hb (dd_of dL_law_20 4 rfl) (by decide) ?_
    exact kk B1 F1 G1 M1 x6 FM1 GM1 O1 H locs ls how hB1 h6 hV hD hS (lv_sub hl [2, 3, 4, 5, 6] rfl)
set_option maxHeartbeats 4000000 in
set_option maxRecDepth 100000 in
theorem cs_send {p : Program} {l : Launch} {e : Env} {s : State} {m : MethodId} {args : Array Value} {below : List Frame} {meth : Method} {c : Code} {H : Heap} {locs : List Loc} {cells slots : Nat} {Q : State → Prop} {ls : Array Slot} {c0 : Cond} {D : va_G} {yy : Nat → ClassId} {Z : Nat → Prop} (hl9 : l.stackTraces = false) (oa h0 an sa L : Nat) (i : Int32) (xs : Nat → Int32) (O : Nat → Int64) (A B B2 : Nat → Nat) (F : jF) (G : jG) (F2 : jF) (G2 : jG) (M FM : jF) (GM : jG) (a1 : Int32) (hi1 : vp_in (i + 1) L) (ha1 : xs (Int32.toNatClampNeg (i + 1)) = a1) (a2 : Int32) (hi2 : vp_in (i + 2) L) (ha2 : xs (Int32.toNatClampNeg (i + 2)) = a2) (a3 : Int32) (hi3 : vp_in (i + 3) L) (ha3 : xs (Int32.toNatClampNeg (i + 3)) = a3) (hok : okX11_send F G M a1 a2 a3) (hcod : (gX11_send F G M a1 a2 a3).1 = 0 ∨ (gX11_send F G M a1 a2 a3).1 = 1 ∨ (gX11_send F G M a1 a2 a3).1 = 2 ∨ (gX11_send F G M a1 a2 a3).1 = 3) (hok12 : okX12_send FM GM a1 a2 a3) (hth : ∀ (x6 : Int32) (FM1 : jF) (GM1 : jG), (x6, (FM1, GM1)) = (gX12_send FM GM a1 a2 a3) → gX12_thrown FM1 GM1 = wk 1 2 3 (gX11_send F G M a1 a2 a3).1) (hval : ∀ x st x6 st6, (gX11_send F G M a1 a2 a3) = (0, (x, st)) → (x6, st6) = (gX12_send FM GM a1 a2 a3) → Int32.toInt64 x = Int32.toInt64 x6) (hx : p.tables.exec = Jvm.exec) (hb : c.code = cL_law) (hml : c.maxLocals = 8) (hown : s.vm.findClass RL = some m.cls) (hts : ∀ w ∈ c0 :: wsL_law, w.before args s = true) (hV : va_P D vwCl (kW yy oa O (pV yy h0 an B B2 F G F2 G2 M) (mW yy A FM GM) sa L xs) H) (hK : va_K D vwCl (jT yy) s) (hT : jTP Z s) (hN : jNc s) (hD : va_D Z (kW yy oa O (pV yy h0 an B B2 F G F2 G2 M) (mW yy A FM GM) sa L xs)) (hS : va_S Z s.heap H locs) (hA : ∀ q, s.heap.size ≤ q → Z q) (hX0 : va_X sa L xs s s.heap) (hbl : sa < s.heap.size) (hbA : ¬ Z sa) (hl : lv_has ls 8 [(4, .int i), (3, .ref oa), (2, .ref (A 99)), (1, .ref h0), (0, .ref sa)]) (hf : cells + 9 ≤ rmLaw.cells ∧ slots + 64 ≤ rmLaw.slots)
    (kk : ∀ (B1 : Nat → Nat) (F1 : jF) (G1 : jG) (M1 : jF) (x6 : Int32) (FM1 : jF) (GM1 : jG) (O1 : Nat → Int64) (H : Heap) (locs : List Loc) (ls : Array Slot), ((∃ x, (gX11_send F G M a1 a2 a3) = (0, (x, ((F1, G1), M1)))) ∨ ((gX11_send F G M a1 a2 a3).1 ≠ 0 ∧ B1 = B ∧ F1 = F ∧ G1 = G ∧ M1 = M)) → (∀ k, k < 100 → B1 k = B k) → (x6, (FM1, GM1)) = (gX12_send FM GM a1 a2 a3) → va_P D vwCl (kW yy oa O1 (pV yy h0 an B1 B2 F1 G1 F2 G2 M1) (mW yy A FM1 GM1) sa L xs) H → va_D Z (kW yy oa O1 (pV yy h0 an B1 B2 F1 G1 F2 G2 M1) (mW yy A FM1 GM1) sa L xs) → va_S Z s.heap H locs → lv_has ls 8 [(4, .int i), (3, .ref oa), (2, .ref (A 99)), (1, .ref h0), (0, .ref sa)] → W p l e rmLaw s m args below meth c H locs (cells + 9) (slots + 64) Q (F0 m 2515 ls [])) : W p l e rmLaw s m args below meth c H locs cells slots Q (F0 m 1346 ls []) := by
  refine lv_aload_n hx hb (dd_of dL_law_20 5 rfl) rfl (lv_at hl 3 rfl) ?_
  refine lv_aload_n hx hb (dd_of dL_law_20 6 rfl) rfl (lv_at hl 4 rfl) ?_
  refine lv_iload hx hb (dd_of dL_law_20 7 rfl) (lv_at hl 0 rfl) ?_
  refine lv_iconst (v := 1) hx hb (dd_of dL_law_20 8 rfl) (by decide) ?_
  refine lv_iadd hx hb (dd_of dL_law_20 9 rfl) ?_
  refine va_sld hx hb hX0 hbl hbA hS hi1 (dd_of dL_law_20 10 rfl) ?_
  rw [ha1]
  refine lv_aload_n hx hb (dd_of dL_law_20 11 rfl) rfl (lv_at hl 4 rfl) ?_
  refine lv_iload hx hb (dd_of dL_law_20 12 rfl) (lv_at hl 0 rfl) ?_
  refine lv_iconst (v := 2) hx hb (dd_of dL_law_20 13 rfl) (by decide) ?_
  refine lv_iadd hx hb (dd_of dL_law_20 14 rfl) ?_
  refine va_sld hx hb hX0 hbl hbA hS hi2 (dd_of dL_law_20 15 rfl) ?_
  rw [ha2]
  refine lv_aload_n hx hb (dd_of dL_law_20 16 rfl) rfl (lv_at hl 4 rfl) ?_
  refine lv_iload hx hb (dd_of dL_law_20 17 rfl) (lv_at hl 0 rfl) ?_
  refine lv_iconst (v := 3) hx hb (dd_of dL_law_20 18 rfl) (by decide) ?_
  refine lv_iadd hx hb (dd_of dL_law_20 19 rfl) ?_
  refine va_sld hx hb hX0 hbl hbA hS hi3 (dd_of dL_law_20 20 rfl) ?_
  rw [ha3]
  refine lv_aload_n hx hb (dd_of dL_law_20 21 rfl) rfl (lv_at hl 1 rfl) ?_
  have hq := qL_send l hl9 D yy oa h0 an O B B2 F G F2 G2 M (mW yy A FM GM ++ []) H.size a1 a2 a3 hok hcod
  refine js_i (As := [.ref h0, .int a1, .int a2, .int a3, .ref oa]) (rest := []) (D := D) (yy := yy) (w := (kW yy oa O (pV yy h0 an B B2 F G F2 G2 M) (mW yy A FM GM) sa L xs)) (w1 := fun u : (((Nat → Nat) × jS) × jF) × (Nat → Int64) => kW yy oa u.2 (pV yy h0 an u.1.1.1 B2 u.1.1.2.1 u.1.1.2.2 F2 G2 u.1.2) (mW yy A FM GM) sa L xs) ⟨hx, hb, hml, hown, hts⟩ hq (vx_cwSW 5 hts (jgW gw827 gw828 gw173 gw829) rfl rfl rfl (by decide +kernel) ⟨Nat.le_of_ble_eq_true rfl, Nat.le_of_ble_eq_true rfl⟩) hV hK hT hN hD hS hA rfl hl.1 rfl (Nat.le_of_ble_eq_true rfl) (dd_of dL_law_20 22 rfl) hf (fun x5 u H locs hp hV hD hS => ?_)
  obtain ⟨⟨⟨B1, F1, G1⟩, M1⟩, O1⟩ := u
  obtain ⟨hp, hB1⟩ := hp
  have hB1 : ∀ k, k < 100 → B1 k = B k := hB1
  have hp : ((∃ x, (gX11_send F G M a1 a2 a3) = (0, (x, ((F1, G1), M1))) ∧ x5 = 0 ∧ O1 = vp_updL O 0 (Int32.toInt64 x)) ∨ ((gX11_send F G M a1 a2 a3).1 ≠ 0 ∧ x5 = wk 1 2 3 (gX11_send F G M a1 a2 a3).1 ∧ (((B1, (F1, G1)), M1), O1) = (((B, (F, G)), M), O))) := hp
  have hV : va_P D vwCl (kW yy oa O1 (pV yy h0 an B1 B2 F1 G1 F2 G2 M1) (mW yy A FM GM) sa L xs) H := hV
  have hD : va_D Z (kW yy oa O1 (pV yy h0 an B1 B2 F1 G1 F2 G2 M1) (mW yy A FM GM) sa L xs) := hD
  have hk5 : x5 = wk 1 2 3 (gX11_send F G M a1 a2 a3).1 := by
    rcases hp with ⟨x, h1, h2, _⟩ | ⟨_, h2, _⟩
    · rw [h2, h1]; rfl
    · exact h2
  refine lv_istore (lv' := [(5, .int x5), (4, .int i), (3, .ref oa), (2, .ref (A 99)), (1, .ref h0), (0, .ref sa)]) hx hb (dd_of dL_law_20 23 rfl) hl (by decide) rfl (fun ls hl => ?_)
  refine lv_aload_n hx hb (dd_of dL_law_20 24 rfl) rfl (lv_at hl 3 rfl) ?_
  refine lv_aload_n hx hb (dd_of dL_law_20 25 rfl) rfl (lv_at hl 5 rfl) ?_
  refine lv_iload hx hb (dd_of dL_law_20 26 rfl) (lv_at hl 1 rfl) ?_
  refine lv_iconst (v := 1) hx hb (dd_of dL_law_20 27 rfl) (by decide) ?_
  refine lv_iadd hx hb (dd_of dL_law_20 28 rfl) ?_
  refine va_sld hx hb hX0 hbl hbA hS hi1 (dd_of dL_law_20 29 rfl) ?_
  rw [ha1]
  refine lv_aload_n hx hb (dd_of dL_law_20 30 rfl) rfl (lv_at hl 5 rfl) ?_
  refine lv_iload hx hb (dd_of dL_law_20 31 rfl) (lv_at hl 1 rfl) ?_
  refine lv_iconst (v := 2) hx hb (dd_of dL_law_20 32 rfl) (by decide) ?_
  refine lv_iadd hx hb (dd_of dL_law_20 33 rfl) ?_
  refine va_sld hx hb hX0 hbl hbA hS hi2 (dd_of dL_law_20 34 rfl) ?_
  rw [ha2]
  refine lv_aload_n hx hb (dd_of dL_law_20 35 rfl) rfl (lv_at hl 5 rfl) ?_
  refine lv_iload hx hb (dd_of dL_law_20 36 rfl) (lv_at hl 1 rfl) ?_
  refine lv_iconst (v := 3) hx hb (dd_of dL_law_20 37 rfl) (by decide) ?_
  refine lv_iadd hx hb (dd_of dL_law_20 38 rfl) ?_
  refine va_sld hx hb hX0 hbl hbA hS hi3 (dd_of dL_law_20 39 rfl) ?_
  rw [ha3]
  refine jt_i (As := [.int a1, .int a2, .int a3]) (rest := []) (D := D) (yy := yy) (oa := oa) (O := O1) (P := (pV yy h0 an B1 B2 F1 G1 F2 G2 M1)) (M := mW yy A FM GM) (w1 := fun u : jS => mW yy A u.1 u.2) ⟨hx, hb, hml, hown, hts⟩ (qX12_send l D yy A FM GM H.size a1 a2 a3 hok12) (cwV 3 hts (jgV gw844 gw845 gw846 gw5 gw847) rfl rfl rfl (by decide +kernel) ⟨Nat.le_of_ble_eq_true rfl, Nat.le_of_ble_eq_true rfl⟩) hV hK hD hS hA (va_recv hK (kW_M hV) (ci := 12) (q0 := 0) rfl rfl) rfl hl.1 rfl (Nat.le_of_ble_eq_true rfl) (dd_of dL_law_21 0 rfl) hf (fun x6 u H locs h6 hV hD hS => ?_)
  obtain ⟨FM1, GM1⟩ := u
  have h6 : (x6, (FM1, GM1)) = (gX12_send FM GM a1 a2 a3) := h6
  have hV : va_P D vwCl (kW yy oa O1 (pV yy h0 an B1 B2 F1 G1 F2 G2 M1) (mW yy A FM1 GM1) sa L xs) H := hV
  have hD : va_D Z (kW yy oa O1 (pV yy h0 an B1 B2 F1 G1 F2 G2 M1) (mW yy A FM1 GM1) sa L xs) := hD
  refine lv_istore (lv' := [(6, .int x6), (5, .int x5), (4, .int i), (3, .ref oa), (2, .ref (A 99)), (1, .ref h0), (0, .ref sa)]) hx hb (dd_of dL_law_21 1 rfl) hl (by decide) rfl (fun ls hl => ?_)
  refine lv_aload_n hx hb (dd_of dL_law_21 2 rfl) rfl (lv_at hl 4 rfl) ?_
  refine jc_i (As := []) (rest := []) (w := mW yy A FM1 GM1) (D := D) (yy := yy) ⟨hx, hb, hml, hown, hts⟩ (qX12_thrown l D yy A FM1 GM1) (cwV 0 hts (jgV gw594 gw595 gw596 gw5 gw597) rfl rfl rfl (by decide +kernel) ⟨Nat.le_of_ble_eq_true rfl, Nat.le_of_ble_eq_true rfl⟩) (kW_M hV) hK (va_recv hK (kW_M hV) (ci := 12) (q0 := 0) rfl rfl) rfl hl.1 rfl (Nat.le_of_ble_eq_true rfl) (dd_of dL_law_21 3 rfl) hf (fun x7 e7 => ?_)
  refine lv_iload hx hb (dd_of dL_law_21 4 rfl) (lv_at hl 1 rfl) ?_
  refine lv_icmp_eq (tgt := 1406) hx hb (dd_of dL_law_21 5 rfl) (by decide) (fun c7 => ?_) (fun c7 => absurd (e7.trans ((hth _ _ _ h6).trans hk5.symm)) c7)
  have how : ((∃ x, (gX11_send F G M a1 a2 a3) = (0, (x, ((F1, G1), M1)))) ∨ ((gX11_send F G M a1 a2 a3).1 ≠ 0 ∧ B1 = B ∧ F1 = F ∧ G1 = G ∧ M1 = M)) := by
    rcases hp with ⟨x, h1, _, _⟩ | ⟨h1, _, h2⟩
    · exact Or.inl ⟨x, h1⟩
    · simp only [Prod.mk.injEq] at h2
      exact Or.inr ⟨h1, h2.1.1.1, h2.1.1.2.1, h2.1.1.2.2, h2.1.2⟩
  refine lv_iload hx hb (dd_of dL_law_21 8 rfl) (lv_at hl 1 rfl) ?_
  refine lv_if_ne (tgt := 1423) hx hb (dd_of dL_law_21 9 rfl) (by decide) (fun c8 => ?_) (fun c8 => ?_)
  · skip
    refine lv_goto (tgt := 2515) hx hb (dd_of dL_law_21 19 rfl) (by decide) ?_
    exact kk B1 F1 G1 M1 x6 FM1 GM1 O1 H locs ls how hB1 h6 hV hD hS (lv_sub hl [2, 3, 4, 5, 6] rfl)
  · skip
    have hO := kW_O hV
    have h9 : O1 0 = Int32.toInt64 x6 := by
      rcases hp with ⟨x, h1, _, h2⟩ | ⟨h1, h2, _⟩
      · rw [h2]; exact hval _ _ _ _ h1 h6
      · exfalso; rw [h2] at c8; rcases hcod with hq | hq | hq | hq <;> first | exact h1 hq | (rw [hq] at c8; exact absurd c8 (by decide))
    refine lv_aload_n hx hb (dd_of dL_law_21 10 rfl) rfl (lv_at hl 3 rfl) ?_
    refine lv_iconst (v := 0) hx hb (dd_of dL_law_21 11 rfl) (by decide) ?_
    refine va_lald hx hb hK hO 0 1 rfl rfl (vin_lit (by decide)) (dd_of dL_law_21 12 rfl) ?_
    refine lv_iload hx hb (dd_of dL_law_21 13 rfl) (lv_at hl 0 rfl) ?_
    refine lv_i2l (v := Int32.toInt64 x6) hx hb (dd_of dL_law_21 14 rfl) rfl ?_
    refine jl_eq (tgt := 1423) hx hb (dd_of dL_law_21 15 rfl) (dd_of dL_law_21 16 rfl) (by decide) (fun c10 => ?_) (fun c10 => absurd h9 c10)
    refine lv_goto (tgt := 2515) hx hb (dd_of dL_law_21 19 rfl) (by decide) ?_
    exact kk B1 F1 G1 M1 x6 FM1 GM1 O1 H locs ls how hB1 h6 hV hD hS (lv_sub hl [2, 3, 4, 5, 6] rfl)
set_option maxHeartbeats 4000000 in
set_option maxRecDepth 100000 in
theorem cs_budget {p : Program} {l : Launch} {e : Env} {s : State} {m : MethodId} {args : Array Value} {below : List Frame} {meth : Method} {c : Code} {H : Heap} {locs : List Loc} {cells slots : Nat} {Q : State → Prop} {ls : Array Slot} {c0 : Cond} {D : va_G} {yy : Nat → ClassId} {Z : Nat → Prop} (hl9 : l.stackTraces = false) (oa h0 an sa L : Nat) (i : Int32) (xs : Nat → Int32) (O : Nat → Int64) (A B B2 : Nat → Nat) (F : jF) (G : jG) (F2 : jF) (G2 : jG) (M FM : jF) (GM : jG) (a1 : Int32) (hi1 : vp_in (i + 1) L) (ha1 : xs (Int32.toNatClampNeg (i + 1)) = a1) (a2 : Int32) (hi2 : vp_in (i + 2) L) (ha2 : xs (Int32.toNatClampNeg (i + 2)) = a2) (hok : okX11_budget F G M a1 a2) (hcod : (gX11_budget F G M a1 a2).1 = 0 ∨ (gX11_budget F G M a1 a2).1 = 2) (hth : ∀ (x6 : Int32) (FM1 : jF) (GM1 : jG), (x6, (FM1, GM1)) = (gX12_budget FM GM a1 a2) → gX12_thrown FM1 GM1 = wk 2 9 9 (gX11_budget F G M a1 a2).1) (hval : ∀ x st x6 st6, (gX11_budget F G M a1 a2) = (0, (x, st)) → (x6, st6) = (gX12_budget FM GM a1 a2) → Int32.toInt64 x = Int32.toInt64 x6) (hx : p.tables.exec = Jvm.exec) (hb : c.code = cL_law) (hml : c.maxLocals = 8) (hown : s.vm.findClass RL = some m.cls) (hts : ∀ w ∈ c0 :: wsL_law, w.before args s = true) (hV : va_P D vwCl (kW yy oa O (pV yy h0 an B B2 F G F2 G2 M) (mW yy A FM GM) sa L xs) H) (hK : va_K D vwCl (jT yy) s) (hT : jTP Z s) (hN : jNc s) (hD : va_D Z (kW yy oa O (pV yy h0 an B B2 F G F2 G2 M) (mW yy A FM GM) sa L xs)) (hS : va_S Z s.heap H locs) (hA : ∀ q, s.heap.size ≤ q → Z q) (hX0 : va_X sa L xs s s.heap) (hbl : sa < s.heap.size) (hbA : ¬ Z sa) (hl : lv_has ls 8 [(4, .int i), (3, .ref oa), (2, .ref (A 99)), (1, .ref h0), (0, .ref sa)]) (hf : cells + 9 ≤ rmLaw.cells ∧ slots + 64 ≤ rmLaw.slots)
    (kk : ∀ (B1 : Nat → Nat) (F1 : jF) (G1 : jG) (M1 : jF) (x6 : Int32) (FM1 : jF) (GM1 : jG) (O1 : Nat → Int64) (H : Heap) (locs : List Loc) (ls : Array Slot), ((∃ x, (gX11_budget F G M a1 a2) = (0, (x, ((F1, G1), M1)))) ∨ ((gX11_budget F G M a1 a2).1 ≠ 0 ∧ B1 = B ∧ F1 = F ∧ G1 = G ∧ M1 = M)) → (∀ k, k < 100 → B1 k = B k) → (x6, (FM1, GM1)) = (gX12_budget FM GM a1 a2) → va_P D vwCl (kW yy oa O1 (pV yy h0 an B1 B2 F1 G1 F2 G2 M1) (mW yy A FM1 GM1) sa L xs) H → va_D Z (kW yy oa O1 (pV yy h0 an B1 B2 F1 G1 F2 G2 M1) (mW yy A FM1 GM1) sa L xs) → va_S Z s.heap H locs → lv_has ls 8 [(4, .int i), (3, .ref oa), (2, .ref (A 99)), (1, .ref h0), (0, .ref sa)] → W p l e rmLaw s m args below meth c H locs (cells + 9) (slots + 64) Q (F0 m 2515 ls [])) : W p l e rmLaw s m args below meth c H locs cells slots Q (F0 m 1426 ls []) := by
  refine lv_aload_n hx hb (dd_of dL_law_21 20 rfl) rfl (lv_at hl 3 rfl) ?_
  refine lv_aload_n hx hb (dd_of dL_law_21 21 rfl) rfl (lv_at hl 4 rfl) ?_
  refine lv_iload hx hb (dd_of dL_law_21 22 rfl) (lv_at hl 0 rfl) ?_
  refine lv_iconst (v := 1) hx hb (dd_of dL_law_21 23 rfl) (by decide) ?_
  refine lv_iadd hx hb (dd_of dL_law_21 24 rfl) ?_
  refine va_sld hx hb hX0 hbl hbA hS hi1 (dd_of dL_law_21 25 rfl) ?_
  rw [ha1]
  refine lv_aload_n hx hb (dd_of dL_law_21 26 rfl) rfl (lv_at hl 4 rfl) ?_
  refine lv_iload hx hb (dd_of dL_law_21 27 rfl) (lv_at hl 0 rfl) ?_
  refine lv_iconst (v := 2) hx hb (dd_of dL_law_21 28 rfl) (by decide) ?_
  refine lv_iadd hx hb (dd_of dL_law_21 29 rfl) ?_
  refine va_sld hx hb hX0 hbl hbA hS hi2 (dd_of dL_law_21 30 rfl) ?_
  rw [ha2]
  refine lv_aload_n hx hb (dd_of dL_law_21 31 rfl) rfl (lv_at hl 1 rfl) ?_
  have hq := qL_budget l hl9 D yy oa h0 an O B B2 F G F2 G2 M (mW yy A FM GM ++ []) H.size a1 a2 hok hcod
  refine js_i (As := [.ref h0, .int a1, .int a2, .ref oa]) (rest := []) (D := D) (yy := yy) (w := (kW yy oa O (pV yy h0 an B B2 F G F2 G2 M) (mW yy A FM GM) sa L xs)) (w1 := fun u : (((Nat → Nat) × jS) × jF) × (Nat → Int64) => kW yy oa u.2 (pV yy h0 an u.1.1.1 B2 u.1.1.2.1 u.1.1.2.2 F2 G2 u.1.2) (mW yy A FM GM) sa L xs) ⟨hx, hb, hml, hown, hts⟩ hq (vx_cwSW 4 hts (jgW gw848 gw849 gw173 gw850) rfl rfl rfl (by decide +kernel) ⟨Nat.le_of_ble_eq_true rfl, Nat.le_of_ble_eq_true rfl⟩) hV hK hT hN hD hS hA rfl hl.1 rfl (Nat.le_of_ble_eq_true rfl) (dd_of dL_law_21 32 rfl) hf (fun x5 u H locs hp hV hD hS => ?_)
  obtain ⟨⟨⟨B1, F1, G1⟩, M1⟩, O1⟩ := u
  obtain ⟨hp, hB1⟩ := hp
  have hB1 : ∀ k, k < 100 → B1 k = B k := hB1
  have hp : ((∃ x, (gX11_budget F G M a1 a2) = (0, (x, ((F1, G1), M1))) ∧ x5 = 0 ∧ O1 = vp_updL O 0 (Int32.toInt64 x)) ∨ ((gX11_budget F G M a1 a2).1 ≠ 0 ∧ x5 = wk 2 9 9 (gX11_budget F G M a1 a2).1 ∧ (((B1, (F1, G1)), M1), O1) = (((B, (F, G)), M), O))) := hp
  have hV : va_P D vwCl (kW yy oa O1 (pV yy h0 an B1 B2 F1 G1 F2 G2 M1) (mW yy A FM GM) sa L xs) H := hV
  have hD : va_D Z (kW yy oa O1 (pV yy h0 an B1 B2 F1 G1 F2 G2 M1) (mW yy A FM GM) sa L xs) := hD
  have hk5 : x5 = wk 2 9 9 (gX11_budget F G M a1 a2).1 := by
    rcases hp with ⟨x, h1, h2, _⟩ | ⟨_, h2, _⟩
    · rw [h2, h1]; rfl
    · exact h2
  refine lv_istore (lv' := [(5, .int x5), (4, .int i), (3, .ref oa), (2, .ref (A 99)), (1, .ref h0), (0, .ref sa)]) hx hb (dd_of dL_law_21 33 rfl) hl (by decide) rfl (fun ls hl => ?_)
  refine lv_aload_n hx hb (dd_of dL_law_21 34 rfl) rfl (lv_at hl 3 rfl) ?_
  refine lv_aload_n hx hb (dd_of dL_law_21 35 rfl) rfl (lv_at hl 5 rfl) ?_
  refine lv_iload hx hb (dd_of dL_law_21 36 rfl) (lv_at hl 1 rfl) ?_
  refine lv_iconst (v := 1) hx hb (dd_of dL_law_21 37 rfl) (by decide) ?_
  refine lv_iadd hx hb (dd_of dL_law_21 38 rfl) ?_
  refine va_sld hx hb hX0 hbl hbA hS hi1 (dd_of dL_law_21 39 rfl) ?_
  rw [ha1]
  refine lv_aload_n hx hb (dd_of dL_law_22 0 rfl) rfl (lv_at hl 5 rfl) ?_
  refine lv_iload hx hb (dd_of dL_law_22 1 rfl) (lv_at hl 1 rfl) ?_
  refine lv_iconst (v := 2) hx hb (dd_of dL_law_22 2 rfl) (by decide) ?_
  refine lv_iadd hx hb (dd_of dL_law_22 3 rfl) ?_
  refine va_sld hx hb hX0 hbl hbA hS hi2 (dd_of dL_law_22 4 rfl) ?_
  rw [ha2]
  refine jt_i (As := [.int a1, .int a2]) (rest := []) (D := D) (yy := yy) (oa := oa) (O := O1) (P := (pV yy h0 an B1 B2 F1 G1 F2 G2 M1)) (M := mW yy A FM GM) (w1 := fun u : jS => mW yy A u.1 u.2) ⟨hx, hb, hml, hown, hts⟩ (qX12_budget l D yy A FM GM H.size a1 a2) (cwV 2 hts (jgV gw855 gw856 gw857 gw5 gw858) rfl rfl rfl (by decide +kernel) ⟨Nat.le_of_ble_eq_true rfl, Nat.le_of_ble_eq_true rfl⟩) hV hK hD hS hA (va_recv hK (kW_M hV) (ci := 12) (q0 := 0) rfl rfl) rfl hl.1 rfl (Nat.le_of_ble_eq_true rfl) (dd_of dL_law_22 5 rfl) hf (fun x6 u H locs h6 hV hD hS => ?_)
  obtain ⟨FM1, GM1⟩ := u
  have h6 : (x6, (FM1, GM1)) = (gX12_budget FM GM a1 a2) := h6
  have hV : va_P D vwCl (kW yy oa O1 (pV yy h0 an B1 B2 F1 G1 F2 G2 M1) (mW yy A FM1 GM1) sa L xs) H := hV
  have hD : va_D Z (kW yy oa O1 (pV yy h0 an B1 B2 F1 G1 F2 G2 M1) (mW yy A FM1 GM1) sa L xs) := hD
  refine lv_istore (lv' := [(6, .int x6), (5, .int x5), (4, .int i), (3, .ref oa), (2, .ref (A 99)), (1, .ref h0), (0, .ref sa)]) hx hb (dd_of dL_law_22 6 rfl) hl (by decide) rfl (fun ls hl => ?_)
  refine lv_aload_n hx hb (dd_of dL_law_22 7 rfl) rfl (lv_at hl 4 rfl) ?_
  refine jc_i (As := []) (rest := []) (w := mW yy A FM1 GM1) (D := D) (yy := yy) ⟨hx, hb, hml, hown, hts⟩ (qX12_thrown l D yy A FM1 GM1) (cwV 0 hts (jgV gw594 gw595 gw596 gw5 gw597) rfl rfl rfl (by decide +kernel) ⟨Nat.le_of_ble_eq_true rfl, Nat.le_of_ble_eq_true rfl⟩) (kW_M hV) hK (va_recv hK (kW_M hV) (ci := 12) (q0 := 0) rfl rfl) rfl hl.1 rfl (Nat.le_of_ble_eq_true rfl) (dd_of dL_law_22 8 rfl) hf (fun x7 e7 => ?_)
  refine lv_iload hx hb (dd_of dL_law_22 9 rfl) (lv_at hl 1 rfl) ?_
  refine lv_icmp_eq (tgt := 1474) hx hb (dd_of dL_law_22 10 rfl) (by decide) (fun c7 => ?_) (fun c7 => absurd (e7.trans ((hth _ _ _ h6).trans hk5.symm)) c7)
  have how : ((∃ x, (gX11_budget F G M a1 a2) = (0, (x, ((F1, G1), M1)))) ∨ ((gX11_budget F G M a1 a2).1 ≠ 0 ∧ B1 = B ∧ F1 = F ∧ G1 = G ∧ M1 = M)) := by
    rcases hp with ⟨x, h1, _, _⟩ | ⟨h1, _, h2⟩
    · exact Or.inl ⟨x, h1⟩
    · simp only [Prod.mk.injEq] at h2
      exact Or.inr ⟨h1, h2.1.1.1, h2.1.1.2.1, h2.1.1.2.2, h2.1.2⟩
  refine lv_iload hx hb (dd_of dL_law_22 13 rfl) (lv_at hl 1 rfl) ?_
  refine lv_if_ne (tgt := 1491) hx hb (dd_of dL_law_22 14 rfl) (by decide) (fun c8 => ?_) (fun c8 => ?_)
  · skip
    refine lv_goto (tgt := 2515) hx hb (dd_of dL_law_22 24 rfl) (by decide) ?_
    exact kk B1 F1 G1 M1 x6 FM1 GM1 O1 H locs ls how hB1 h6 hV hD hS (lv_sub hl [2, 3, 4, 5, 6] rfl)
  · skip
    have hO := kW_O hV
    have h9 : O1 0 = Int32.toInt64 x6 := by
      rcases hp with ⟨x, h1, _, h2⟩ | ⟨h1, h2, _⟩
      · rw [h2]; exact hval _ _ _ _ h1 h6
      · exfalso; rw [h2] at c8; rcases hcod with hq | hq <;> first | exact h1 hq | (rw [hq] at c8; exact absurd c8 (by decide))
    refine lv_aload_n hx hb (dd_of dL_law_22 15 rfl) rfl (lv_at hl 3 rfl) ?_
    refine lv_iconst (v := 0) hx hb (dd_of dL_law_22 16 rfl) (by decide) ?_
    refine va_lald hx hb hK hO 0 1 rfl rfl (vin_lit (by decide)) (dd_of dL_law_22 17 rfl) ?_
    refine lv_iload hx hb (dd_of dL_law_22 18 rfl) (lv_at hl 0 rfl) ?_
    refine lv_i2l (v := Int32.toInt64 x6) hx hb (dd_of dL_law_22 19 rfl) rfl ?_
    refine jl_eq (tgt := 1491) hx hb (dd_of dL_law_22 20 rfl) (dd_of dL_law_22 21 rfl) (by decide) (fun c10 => ?_) (fun c10 => absurd h9 c10)
    refine lv_goto (tgt := 2515) hx hb (dd_of dL_law_22 24 rfl) (by decide) ?_
    exact kk B1 F1 G1 M1 x6 FM1 GM1 O1 H locs ls how hB1 h6 hV hD hS (lv_sub hl [2, 3, 4, 5, 6] rfl)
