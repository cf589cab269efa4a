-- cases of the law
set_option maxHeartbeats 4000000 in
set_option maxRecDepth 100000 in
theorem cs_raise {p : Program} {l : Launch} {e : Env} {s : State} {m : MethodId} {args : Array Value} {below : List Frame} {meth : Method} {c : Code} {H : Heap} {locs : List Loc} {cells slots : Nat} {Q : State → Prop} {ls : Array Slot} {c0 : Cond} {D : va_G} {yy : Nat → ClassId} {Z : Nat → Prop} (hl9 : l.stackTraces = false) (oa h0 an sa L : Nat) (i : Int32) (xs : Nat → Int32) (O : Nat → Int64) (A B B2 : Nat → Nat) (F : jF) (G : jG) (F2 : jF) (G2 : jG) (M FM : jF) (GM : jG) (a1 : Int32) (hi1 : vp_in (i + 1) L) (ha1 : xs (Int32.toNatClampNeg (i + 1)) = a1) (a2 : Int32) (hi2 : vp_in (i + 2) L) (ha2 : xs (Int32.toNatClampNeg (i + 2)) = a2) (a3 : Int32) (hi3 : vp_in (i + 3) L) (ha3 : xs (Int32.toNatClampNeg (i + 3)) = a3) (hok : okX11_raise F G M a1 a2 a3) (hcod : (gX11_raise F G M a1 a2 a3).1 = 0 ∨ (gX11_raise F G M a1 a2 a3).1 = 1 ∨ (gX11_raise F G M a1 a2 a3).1 = 2 ∨ (gX11_raise F G M a1 a2 a3).1 = 3) (hok12 : okX12_raise FM GM a1 a2 a3) (hth : ∀ (x6 : Int32) (FM1 : jF) (GM1 : jG), (x6, (FM1, GM1)) = (gX12_raise FM GM a1 a2 a3) → gX12_thrown FM1 GM1 = wk 1 2 3 (gX11_raise F G M a1 a2 a3).1) (hval : ∀ x st x6 st6, (gX11_raise F G M a1 a2 a3) = (0, (x, st)) → (x6, st6) = (gX12_raise FM GM a1 a2 a3) → Int32.toInt64 x = Int32.toInt64 x6) (hx : p.tables.exec = Jvm.exec) (hb : c.code = cL_law) (hml : c.maxLocals = 8) (hown : s.vm.findClass RL = some m.cls) (hts : ∀ w ∈ c0 :: wsL_law, w.before args s = true) (hV : va_P D vwCl (kW yy oa O (pV yy h0 an B B2 F G F2 G2 M) (mW yy A FM GM) sa L xs) H) (hK : va_K D vwCl (jT yy) s) (hT : jTP Z s) (hN : jNc s) (hD : va_D Z (kW yy oa O (pV yy h0 an B B2 F G F2 G2 M) (mW yy A FM GM) sa L xs)) (hS : va_S Z s.heap H locs) (hA : ∀ q, s.heap.size ≤ q → Z q) (hX0 : va_X sa L xs s s.heap) (hbl : sa < s.heap.size) (hbA : ¬ Z sa) (hl : lv_has ls 8 [(4, .int i), (3, .ref oa), (2, .ref (A 99)), (1, .ref h0), (0, .ref sa)]) (hf : cells + 9 ≤ rmLaw.cells ∧ slots + 64 ≤ rmLaw.slots)
    (kk : ∀ (B1 : Nat → Nat) (F1 : jF) (G1 : jG) (M1 : jF) (x6 : Int32) (FM1 : jF) (GM1 : jG) (O1 : Nat → Int64) (H : Heap) (locs : List Loc) (ls : Array Slot), ((∃ x, (gX11_raise F G M a1 a2 a3) = (0, (x, ((F1, G1), M1)))) ∨ ((gX11_raise F G M a1 a2 a3).1 ≠ 0 ∧ B1 = B ∧ F1 = F ∧ G1 = G ∧ M1 = M)) → (∀ k, k < 100 → B1 k = B k) → (x6, (FM1, GM1)) = (gX12_raise FM GM a1 a2 a3) → va_P D vwCl (kW yy oa O1 (pV yy h0 an B1 B2 F1 G1 F2 G2 M1) (mW yy A FM1 GM1) sa L xs) H → va_D Z (kW yy oa O1 (pV yy h0 an B1 B2 F1 G1 F2 G2 M1) (mW yy A FM1 GM1) sa L xs) → va_S Z s.heap H locs → lv_has ls 8 [(4, .int i), (3, .ref oa), (2, .ref (A 99)), (1, .ref h0), (0, .ref sa)] → W p l e rmLaw s m args below meth c H locs (cells + 9) (slots + 64) Q (F0 m 2515 ls [])) : W p l e rmLaw s m args below meth c H locs cells slots Q (F0 m 1494 ls []) := by
  refine lv_aload_n hx hb (dd_of dL_law_22 25 rfl) rfl (lv_at hl 3 rfl) ?_
  refine lv_aload_n hx hb (dd_of dL_law_22 26 rfl) rfl (lv_at hl 4 rfl) ?_
  refine lv_iload hx hb (dd_of dL_law_22 27 rfl) (lv_at hl 0 rfl) ?_
  refine lv_iconst (v := 1) hx hb (dd_of dL_law_22 28 rfl) (by decide) ?_
  refine lv_iadd hx hb (dd_of dL_law_22 29 rfl) ?_
  refine va_sld hx hb hX0 hbl hbA hS hi1 (dd_of dL_law_22 30 rfl) ?_
  rw [ha1]
  refine lv_aload_n hx hb (dd_of dL_law_22 31 rfl) rfl (lv_at hl 4 rfl) ?_
  refine lv_iload hx hb (dd_of dL_law_22 32 rfl) (lv_at hl 0 rfl) ?_
  refine lv_iconst (v := 2) hx hb (dd_of dL_law_22 33 rfl) (by decide) ?_
  refine lv_iadd hx hb (dd_of dL_law_22 34 rfl) ?_
  refine va_sld hx hb hX0 hbl hbA hS hi2 (dd_of dL_law_22 35 rfl) ?_
  rw [ha2]
  refine lv_aload_n hx hb (dd_of dL_law_22 36 rfl) rfl (lv_at hl 4 rfl) ?_
  refine lv_iload hx hb (dd_of dL_law_22 37 rfl) (lv_at hl 0 rfl) ?_
  refine lv_iconst (v := 3) hx hb (dd_of dL_law_22 38 rfl) (by decide) ?_
  refine lv_iadd hx hb (dd_of dL_law_22 39 rfl) ?_
  refine va_sld hx hb hX0 hbl hbA hS hi3 (dd_of dL_law_23 0 rfl) ?_
  rw [ha3]
  refine lv_aload_n hx hb (dd_of dL_law_23 1 rfl) rfl (lv_at hl 1 rfl) ?_
  have hq := qL_raise l hl9 D yy oa h0 an O B B2 F G F2 G2 M (mW yy A FM GM ++ []) H.size a1 a2 a3 hok hcod
  refine js_i (As := [.ref h0, .int a1, .int a2, .int a3, .ref oa]) (rest := []) (D := D) (yy := yy) (w := (kW yy oa O (pV yy h0 an B B2 F G F2 G2 M) (mW yy A FM GM) sa L xs)) (w1 := fun u : (((Nat → Nat) × jS) × jF) × (Nat → Int64) => kW yy oa u.2 (pV yy h0 an u.1.1.1 B2 u.1.1.2.1 u.1.1.2.2 F2 G2 u.1.2) (mW yy A FM GM) sa L xs) ⟨hx, hb, hml, hown, hts⟩ hq (vx_cwSW 5 hts (jgW gw860 gw861 gw173 gw862) rfl rfl rfl (by decide +kernel) ⟨Nat.le_of_ble_eq_true rfl, Nat.le_of_ble_eq_true rfl⟩) hV hK hT hN hD hS hA rfl hl.1 rfl (Nat.le_of_ble_eq_true rfl) (dd_of dL_law_23 2 rfl) hf (fun x5 u H locs hp hV hD hS => ?_)
  obtain ⟨⟨⟨B1, F1, G1⟩, M1⟩, O1⟩ := u
  obtain ⟨hp, hB1⟩ := hp
  have hB1 : ∀ k, k < 100 → B1 k = B k := hB1
  have hp : ((∃ x, (gX11_raise F G M a1 a2 a3) = (0, (x, ((F1, G1), M1))) ∧ x5 = 0 ∧ O1 = vp_updL O 0 (Int32.toInt64 x)) ∨ ((gX11_raise F G M a1 a2 a3).1 ≠ 0 ∧ x5 = wk 1 2 3 (gX11_raise F G M a1 a2 a3).1 ∧ (((B1, (F1, G1)), M1), O1) = (((B, (F, G)), M), O))) := hp
  have hV : va_P D vwCl (kW yy oa O1 (pV yy h0 an B1 B2 F1 G1 F2 G2 M1) (mW yy A FM GM) sa L xs) H := hV
  have hD : va_D Z (kW yy oa O1 (pV yy h0 an B1 B2 F1 G1 F2 G2 M1) (mW yy A FM GM) sa L xs) := hD
  have hk5 : x5 = wk 1 2 3 (gX11_raise F G M a1 a2 a3).1 := by
    rcases hp with ⟨x, h1, h2, _⟩ | ⟨_, h2, _⟩
    · rw [h2, h1]; rfl
    · exact h2
  refine lv_istore (lv' := [(5, .int x5), (4, .int i), (3, .ref oa), (2, .ref (A 99)), (1, .ref h0), (0, .ref sa)]) hx hb (dd_of dL_law_23 3 rfl) hl (by decide) rfl (fun ls hl => ?_)
  refine lv_aload_n hx hb (dd_of dL_law_23 4 rfl) rfl (lv_at hl 3 rfl) ?_
  refine lv_aload_n hx hb (dd_of dL_law_23 5 rfl) rfl (lv_at hl 5 rfl) ?_
  refine lv_iload hx hb (dd_of dL_law_23 6 rfl) (lv_at hl 1 rfl) ?_
  refine lv_iconst (v := 1) hx hb (dd_of dL_law_23 7 rfl) (by decide) ?_
  refine lv_iadd hx hb (dd_of dL_law_23 8 rfl) ?_
  refine va_sld hx hb hX0 hbl hbA hS hi1 (dd_of dL_law_23 9 rfl) ?_
  rw [ha1]
  refine lv_aload_n hx hb (dd_of dL_law_23 10 rfl) rfl (lv_at hl 5 rfl) ?_
  refine lv_iload hx hb (dd_of dL_law_23 11 rfl) (lv_at hl 1 rfl) ?_
  refine lv_iconst (v := 2) hx hb (dd_of dL_law_23 12 rfl) (by decide) ?_
  refine lv_iadd hx hb (dd_of dL_law_23 13 rfl) ?_
  refine va_sld hx hb hX0 hbl hbA hS hi2 (dd_of dL_law_23 14 rfl) ?_
  rw [ha2]
  refine lv_aload_n hx hb (dd_of dL_law_23 15 rfl) rfl (lv_at hl 5 rfl) ?_
  refine lv_iload hx hb (dd_of dL_law_23 16 rfl) (lv_at hl 1 rfl) ?_
  refine lv_iconst (v := 3) hx hb (dd_of dL_law_23 17 rfl) (by decide) ?_
  refine lv_iadd hx hb (dd_of dL_law_23 18 rfl) ?_
  refine va_sld hx hb hX0 hbl hbA hS hi3 (dd_of dL_law_23 19 rfl) ?_
  rw [ha3]
  refine jt_i (As := [.int a1, .int a2, .int a3]) (rest := []) (D := D) (yy := yy) (oa := oa) (O := O1) (P := (pV yy h0 an B1 B2 F1 G1 F2 G2 M1)) (M := mW yy A FM GM) (w1 := fun u : jS => mW yy A u.1 u.2) ⟨hx, hb, hml, hown, hts⟩ (qX12_raise l D yy A FM GM H.size a1 a2 a3 hok12) (cwV 3 hts (jgV gw871 gw872 gw873 gw5 gw874) rfl rfl rfl (by decide +kernel) ⟨Nat.le_of_ble_eq_true rfl, Nat.le_of_ble_eq_true rfl⟩) hV hK hD hS hA (va_recv hK (kW_M hV) (ci := 12) (q0 := 0) rfl rfl) rfl hl.1 rfl (Nat.le_of_ble_eq_true rfl) (dd_of dL_law_23 20 rfl) hf (fun x6 u H locs h6 hV hD hS => ?_)
  obtain ⟨FM1, GM1⟩ := u
  have h6 : (x6, (FM1, GM1)) = (gX12_raise FM GM a1 a2 a3) := h6
  have hV : va_P D vwCl (kW yy oa O1 (pV yy h0 an B1 B2 F1 G1 F2 G2 M1) (mW yy A FM1 GM1) sa L xs) H := hV
  have hD : va_D Z (kW yy oa O1 (pV yy h0 an B1 B2 F1 G1 F2 G2 M1) (mW yy A FM1 GM1) sa L xs) := hD
  refine lv_istore (lv' := [(6, .int x6), (5, .int x5), (4, .int i), (3, .ref oa), (2, .ref (A 99)), (1, .ref h0), (0, .ref sa)]) hx hb (dd_of dL_law_23 21 rfl) hl (by decide) rfl (fun ls hl => ?_)
  refine lv_aload_n hx hb (dd_of dL_law_23 22 rfl) rfl (lv_at hl 4 rfl) ?_
  refine jc_i (As := []) (rest := []) (w := mW yy A FM1 GM1) (D := D) (yy := yy) ⟨hx, hb, hml, hown, hts⟩ (qX12_thrown l D yy A FM1 GM1) (cwV 0 hts (jgV gw594 gw595 gw596 gw5 gw597) rfl rfl rfl (by decide +kernel) ⟨Nat.le_of_ble_eq_true rfl, Nat.le_of_ble_eq_true rfl⟩) (kW_M hV) hK (va_recv hK (kW_M hV) (ci := 12) (q0 := 0) rfl rfl) rfl hl.1 rfl (Nat.le_of_ble_eq_true rfl) (dd_of dL_law_23 23 rfl) hf (fun x7 e7 => ?_)
  refine lv_iload hx hb (dd_of dL_law_23 24 rfl) (lv_at hl 1 rfl) ?_
  refine lv_icmp_eq (tgt := 1554) hx hb (dd_of dL_law_23 25 rfl) (by decide) (fun c7 => ?_) (fun c7 => absurd (e7.trans ((hth _ _ _ h6).trans hk5.symm)) c7)
  have how : ((∃ x, (gX11_raise F G M a1 a2 a3) = (0, (x, ((F1, G1), M1)))) ∨ ((gX11_raise F G M a1 a2 a3).1 ≠ 0 ∧ B1 = B ∧ F1 = F ∧ G1 = G ∧ M1 = M)) := by
    rcases hp with ⟨x, h1, _, _⟩ | ⟨h1, _, h2⟩
    · exact Or.inl ⟨x, h1⟩
    · simp only [Prod.mk.injEq] at h2
      exact Or.inr ⟨h1, h2.1.1.1, h2.1.1.2.1, h2.1.1.2.2, h2.1.2⟩
  refine lv_iload hx hb (dd_of dL_law_23 28 rfl) (lv_at hl 1 rfl) ?_
  refine lv_if_ne (tgt := 1571) hx hb (dd_of dL_law_23 29 rfl) (by decide) (fun c8 => ?_) (fun c8 => ?_)
  · skip
    refine lv_goto (tgt := 2515) hx hb (dd_of dL_law_23 39 rfl) (by decide) ?_
    exact kk B1 F1 G1 M1 x6 FM1 GM1 O1 H locs ls how hB1 h6 hV hD hS (lv_sub hl [2, 3, 4, 5, 6] rfl)
  · skip
    have hO := kW_O hV
    have h9 : O1 0 = Int32.toInt64 x6 := by
      rcases hp with ⟨x, h1, _, h2⟩ | ⟨h1, h2, _⟩
      · rw [h2]; exact hval _ _ _ _ h1 h6
      · exfalso; rw [h2] at c8; rcases hcod with hq | hq | hq | hq <;> first | exact h1 hq | (rw [hq] at c8; exact absurd c8 (by decide))
    refine lv_aload_n hx hb (dd_of dL_law_23 30 rfl) rfl (lv_at hl 3 rfl) ?_
    refine lv_iconst (v := 0) hx hb (dd_of dL_law_23 31 rfl) (by decide) ?_
    refine va_lald hx hb hK hO 0 1 rfl rfl (vin_lit (by decide)) (dd_of dL_law_23 32 rfl) ?_
    refine lv_iload hx hb (dd_of dL_law_23 33 rfl) (lv_at hl 0 rfl) ?_
    refine lv_i2l (v := Int32.toInt64 x6) hx hb (dd_of dL_law_23 34 rfl) rfl ?_
    refine jl_eq (tgt := 1571) hx hb (dd_of dL_law_23 35 rfl) (dd_of dL_law_23 36 rfl) (by decide) (fun c10 => ?_) (fun c10 => absurd h9 c10)
    refine lv_goto (tgt := 2515) hx hb (dd_of dL_law_23 39 rfl) (by decide) ?_
    exact kk B1 F1 G1 M1 x6 FM1 GM1 O1 H locs ls how hB1 h6 hV hD hS (lv_sub hl [2, 3, 4, 5, 6] rfl)
set_option maxHeartbeats 4000000 in
set_option maxRecDepth 100000 in
theorem cs_run {p : Program} {l : Launch} {e : Env} {s : State} {m : MethodId} {args : Array Value} {below : List Frame} {meth : Method} {c : Code} {H : Heap} {locs : List Loc} {cells slots : Nat} {Q : State → Prop} {ls : Array Slot} {c0 : Cond} {D : va_G} {yy : Nat → ClassId} {Z : Nat → Prop} (hl9 : l.stackTraces = false) (oa h0 an sa L : Nat) (i : Int32) (xs : Nat → Int32) (O : Nat → Int64) (A B B2 : Nat → Nat) (F : jF) (G : jG) (F2 : jF) (G2 : jG) (M FM : jF) (GM : jG) (a1 : Int32) (hi1 : vp_in (i + 1) L) (ha1 : xs (Int32.toNatClampNeg (i + 1)) = a1) (hok : okX11_run F G M a1) (hcod : (gX11_run F G M a1).1 = 0 ∨ (gX11_run F G M a1).1 = 2 ∨ (gX11_run F G M a1).1 = 3) (hok12 : okX12_run FM GM a1) (hth : ∀ (x6 : Int32) (FM1 : jF) (GM1 : jG), (x6, (FM1, GM1)) = (gX12_run FM GM a1) → gX12_thrown FM1 GM1 = wk 2 3 9 (gX11_run F G M a1).1) (hval : ∀ x st x6 st6, (gX11_run F G M a1) = (0, (x, st)) → (x6, st6) = (gX12_run FM GM a1) → Int32.toInt64 x = Int32.toInt64 x6) (hx : p.tables.exec = Jvm.exec) (hb : c.code = cL_law) (hml : c.maxLocals = 8) (hown : s.vm.findClass RL = some m.cls) (hts : ∀ w ∈ c0 :: wsL_law, w.before args s = true) (hV : va_P D vwCl (kW yy oa O (pV yy h0 an B B2 F G F2 G2 M) (mW yy A FM GM) sa L xs) H) (hK : va_K D vwCl (jT yy) s) (hT : jTP Z s) (hN : jNc s) (hD : va_D Z (kW yy oa O (pV yy h0 an B B2 F G F2 G2 M) (mW yy A FM GM) sa L xs)) (hS : va_S Z s.heap H locs) (hA : ∀ q, s.heap.size ≤ q → Z q) (hX0 : va_X sa L xs s s.heap) (hbl : sa < s.heap.size) (hbA : ¬ Z sa) (hl : lv_has ls 8 [(4, .int i), (3, .ref oa), (2, .ref (A 99)), (1, .ref h0), (0, .ref sa)]) (hf : cells + 9 ≤ rmLaw.cells ∧ slots + 64 ≤ rmLaw.slots)
    (kk : ∀ (B1 : Nat → Nat) (F1 : jF) (G1 : jG) (M1 : jF) (x6 : Int32) (FM1 : jF) (GM1 : jG) (O1 : Nat → Int64) (H : Heap) (locs : List Loc) (ls : Array Slot), ((∃ x, (gX11_run F G M a1) = (0, (x, ((F1, G1), M1)))) ∨ ((gX11_run F G M a1).1 ≠ 0 ∧ B1 = B ∧ F1 = F ∧ G1 = G ∧ M1 = M)) → (∀ k, k < 100 → B1 k = B k) → (x6, (FM1, GM1)) = (gX12_run FM GM a1) → va_P D vwCl (kW yy oa O1 (pV yy h0 an B1 B2 F1 G1 F2 G2 M1) (mW yy A FM1 GM1) sa L xs) H → va_D Z (kW yy oa O1 (pV yy h0 an B1 B2 F1 G1 F2 G2 M1) (mW yy A FM1 GM1) sa L xs) → va_S Z s.heap H locs → lv_has ls 8 [(4, .int i), (3, .ref oa), (2, .ref (A 99)), (1, .ref h0), (0, .ref sa)] → W p l e rmLaw s m args below meth c H locs (cells + 9) (slots + 64) Q (F0 m 2515 ls [])) : W p l e rmLaw s m args below meth c H locs cells slots Q (F0 m 1574 ls []) := by
  refine lv_aload_n hx hb (dd_of dL_law_24 0 rfl) rfl (lv_at hl 3 rfl) ?_
  refine lv_aload_n hx hb (dd_of dL_law_24 1 rfl) rfl (lv_at hl 4 rfl) ?_
  refine lv_iload hx hb (dd_of dL_law_24 2 rfl) (lv_at hl 0 rfl) ?_
  refine lv_iconst (v := 1) hx hb (dd_of dL_law_24 3 rfl) (by decide) ?_
  refine lv_iadd hx hb (dd_of dL_law_24 4 rfl) ?_
  refine va_sld hx hb hX0 hbl hbA hS hi1 (dd_of dL_law_24 5 rfl) ?_
  rw [ha1]
  refine lv_aload_n hx hb (dd_of dL_law_24 6 rfl) rfl (lv_at hl 1 rfl) ?_
  have hq := qL_run l hl9 D yy oa h0 an O B B2 F G F2 G2 M (mW yy A FM GM ++ []) H.size a1 hok hcod
  refine js_i (As := [.ref h0, .int a1, .ref oa]) (rest := []) (D := D) (yy := yy) (w := (kW yy oa O (pV yy h0 an B B2 F G F2 G2 M) (mW yy A FM GM) sa L xs)) (w1 := fun u : (((Nat → Nat) × jS) × jF) × (Nat → Int64) => kW yy oa u.2 (pV yy h0 an u.1.1.1 B2 u.1.1.2.1 u.1.1.2.2 F2 G2 u.1.2) (mW yy A FM GM) sa L xs) ⟨hx, hb, hml, hown, hts⟩ hq (vx_cwSW 3 hts (jgW gw877 gw878 gw173 gw879) rfl rfl rfl (by decide +kernel) ⟨Nat.le_of_ble_eq_true rfl, Nat.le_of_ble_eq_true rfl⟩) hV hK hT hN hD hS hA rfl hl.1 rfl (Nat.le_of_ble_eq_true rfl) (dd_of dL_law_24 7 rfl) hf (fun x5 u H locs hp hV hD hS => ?_)
  obtain ⟨⟨⟨B1, F1, G1⟩, M1⟩, O1⟩ := u
  obtain ⟨hp, hB1⟩ := hp
  have hB1 : ∀ k, k < 100 → B1 k = B k := hB1
  have hp : ((∃ x, (gX11_run F G M a1) = (0, (x, ((F1, G1), M1))) ∧ x5 = 0 ∧ O1 = vp_updL O 0 (Int32.toInt64 x)) ∨ ((gX11_run F G M a1).1 ≠ 0 ∧ x5 = wk 2 3 9 (gX11_run F G M a1).1 ∧ (((B1, (F1, G1)), M1), O1) = (((B, (F, G)), M), O))) := hp
  have hV : va_P D vwCl (kW yy oa O1 (pV yy h0 an B1 B2 F1 G1 F2 G2 M1) (mW yy A FM GM) sa L xs) H := hV
  have hD : va_D Z (kW yy oa O1 (pV yy h0 an B1 B2 F1 G1 F2 G2 M1) (mW yy A FM GM) sa L xs) := hD
  have hk5 : x5 = wk 2 3 9 (gX11_run F G M a1).1 := by
    rcases hp with ⟨x, h1, h2, _⟩ | ⟨_, h2, _⟩
    · rw [h2, h1]; rfl
    · exact h2
  refine lv_istore (lv' := [(5, .int x5), (4, .int i), (3, .ref oa), (2, .ref (A 99)), (1, .ref h0), (0, .ref sa)]) hx hb (dd_of dL_law_24 8 rfl) hl (by decide) rfl (fun ls hl => ?_)
  refine lv_aload_n hx hb (dd_of dL_law_24 9 rfl) rfl (lv_at hl 3 rfl) ?_
  refine lv_aload_n hx hb (dd_of dL_law_24 10 rfl) rfl (lv_at hl 5 rfl) ?_
  refine lv_iload hx hb (dd_of dL_law_24 11 rfl) (lv_at hl 1 rfl) ?_
  refine lv_iconst (v := 1) hx hb (dd_of dL_law_24 12 rfl) (by decide) ?_
  refine lv_iadd hx hb (dd_of dL_law_24 13 rfl) ?_
  refine va_sld hx hb hX0 hbl hbA hS hi1 (dd_of dL_law_24 14 rfl) ?_
  rw [ha1]
  refine jt_i (As := [.int a1]) (rest := []) (D := D) (yy := yy) (oa := oa) (O := O1) (P := (pV yy h0 an B1 B2 F1 G1 F2 G2 M1)) (M := mW yy A FM GM) (w1 := fun u : jS => mW yy A u.1 u.2) ⟨hx, hb, hml, hown, hts⟩ (qX12_run l D yy A FM GM H.size a1 hok12) (cwV 1 hts (jgV gw889 gw890 gw891 gw5 gw892) rfl rfl rfl (by decide +kernel) ⟨Nat.le_of_ble_eq_true rfl, Nat.le_of_ble_eq_true rfl⟩) hV hK hD hS hA (va_recv hK (kW_M hV) (ci := 12) (q0 := 0) rfl rfl) rfl hl.1 rfl (Nat.le_of_ble_eq_true rfl) (dd_of dL_law_24 15 rfl) hf (fun x6 u H locs h6 hV hD hS => ?_)
  obtain ⟨FM1, GM1⟩ := u
  have h6 : (x6, (FM1, GM1)) = (gX12_run FM GM a1) := h6
  have hV : va_P D vwCl (kW yy oa O1 (pV yy h0 an B1 B2 F1 G1 F2 G2 M1) (mW yy A FM1 GM1) sa L xs) H := hV
  have hD : va_D Z (kW yy oa O1 (pV yy h0 an B1 B2 F1 G1 F2 G2 M1) (mW yy A FM1 GM1) sa L xs) := hD
  refine lv_istore (lv' := [(6, .int x6), (5, .int x5), (4, .int i), (3, .ref oa), (2, .ref (A 99)), (1, .ref h0), (0, .ref sa)]) hx hb (dd_of dL_law_24 16 rfl) hl (by decide) rfl (fun ls hl => ?_)
  refine lv_aload_n hx hb (dd_of dL_law_24 17 rfl) rfl (lv_at hl 4 rfl) ?_
  refine jc_i (As := []) (rest := []) (w := mW yy A FM1 GM1) (D := D) (yy := yy) ⟨hx, hb, hml, hown, hts⟩ (qX12_thrown l D yy A FM1 GM1) (cwV 0 hts (jgV gw594 gw595 gw596 gw5 gw597) rfl rfl rfl (by decide +kernel) ⟨Nat.le_of_ble_eq_true rfl, Nat.le_of_ble_eq_true rfl⟩) (kW_M hV) hK (va_recv hK (kW_M hV) (ci := 12) (q0 := 0) rfl rfl) rfl hl.1 rfl (Nat.le_of_ble_eq_true rfl) (dd_of dL_law_24 18 rfl) hf (fun x7 e7 => ?_)
  refine lv_iload hx hb (dd_of dL_law_24 19 rfl) (lv_at hl 1 rfl) ?_
  refine lv_icmp_eq (tgt := 1610) hx hb (dd_of dL_law_24 20 rfl) (by decide) (fun c7 => ?_) (fun c7 => absurd (e7.trans ((hth _ _ _ h6).trans hk5.symm)) c7)
  have how : ((∃ x, (gX11_run F G M a1) = (0, (x, ((F1, G1), M1)))) ∨ ((gX11_run F G M a1).1 ≠ 0 ∧ B1 = B ∧ F1 = F ∧ G1 = G ∧ M1 = M)) := by
    rcases hp with ⟨x, h1, _, _⟩ | ⟨h1, _, h2⟩
    · exact Or.inl ⟨x, h1⟩
    · simp only [Prod.mk.injEq] at h2
      exact Or.inr ⟨h1, h2.1.1.1, h2.1.1.2.1, h2.1.1.2.2, h2.1.2⟩
  refine lv_iload hx hb (dd_of dL_law_24 23 rfl) (lv_at hl 1 rfl) ?_
  refine lv_if_ne (tgt := 1627) hx hb (dd_of dL_law_24 24 rfl) (by decide) (fun c8 => ?_) (fun c8 => ?_)
  · skip
    refine lv_goto (tgt := 2515) hx hb (dd_of dL_law_24 34 rfl) (by decide) ?_
    exact kk B1 F1 G1 M1 x6 FM1 GM1 O1 H locs ls how hB1 h6 hV hD hS (lv_sub hl [2, 3, 4, 5, 6] rfl)
  · skip
    have hO := kW_O hV
    have h9 : O1 0 = Int32.toInt64 x6 := by
      rcases hp with ⟨x, h1, _, h2⟩ | ⟨h1, h2, _⟩
      · rw [h2]; exact hval _ _ _ _ h1 h6
      · exfalso; rw [h2] at c8; rcases hcod with hq | hq | hq <;> first | exact h1 hq | (rw [hq] at c8; exact absurd c8 (by decide))
    refine lv_aload_n hx hb (dd_of dL_law_24 25 rfl) rfl (lv_at hl 3 rfl) ?_
    refine lv_iconst (v := 0) hx hb (dd_of dL_law_24 26 rfl) (by decide) ?_
    refine va_lald hx hb hK hO 0 1 rfl rfl (vin_lit (by decide)) (dd_of dL_law_24 27 rfl) ?_
    refine lv_iload hx hb (dd_of dL_law_24 28 rfl) (lv_at hl 0 rfl) ?_
    refine lv_i2l (v := Int32.toInt64 x6) hx hb (dd_of dL_law_24 29 rfl) rfl ?_
    refine jl_eq (tgt := 1627) hx hb (dd_of dL_law_24 30 rfl) (dd_of dL_law_24 31 rfl) (by decide) (fun c10 => ?_) (fun c10 => absurd h9 c10)
    refine lv_goto (tgt := 2515) hx hb (dd_of dL_law_24 34 rfl) (by decide) ?_
    exact kk B1 F1 G1 M1 x6 FM1 GM1 O1 H locs ls how hB1 h6 hV hD hS (lv_sub hl [2, 3, 4, 5, 6] rfl)
set_option maxHeartbeats 4000000 in
set_option maxRecDepth 100000 in
theorem cs_endYear {p : Program} {l : Launch} {e : Env} {s : State} {m : MethodId} {args : Array Value} {below : List Frame} {meth : Method} {c : Code} {H : Heap} {locs : List Loc} {cells slots : Nat} {Q : State → Prop} {ls : Array Slot} {c0 : Cond} {D : va_G} {yy : Nat → ClassId} {Z : Nat → Prop} (hl9 : l.stackTraces = false) (oa h0 an sa L : Nat) (i : Int32) (xs : Nat → Int32) (O : Nat → Int64) (A B B2 : Nat → Nat) (F : jF) (G : jG) (F2 : jF) (G2 : jG) (M FM : jF) (GM : jG)  (hok : okX11_endYear F G M ) (hcod : (gX11_endYear F G M ).1 = 0 ∨ (gX11_endYear F G M ).1 = 3) (hok12 : okX12_endYear FM GM ) (hth : ∀ (x6 : Int32) (FM1 : jF) (GM1 : jG), (x6, (FM1, GM1)) = (gX12_endYear FM GM ) → gX12_thrown FM1 GM1 = wk 3 9 9 (gX11_endYear F G M ).1) (hval : ∀ x st x6 st6, (gX11_endYear F G M ) = (0, (x, st)) → (x6, st6) = (gX12_endYear FM GM ) → Int32.toInt64 x = Int32.toInt64 x6) (hx : p.tables.exec = Jvm.exec) (hb : c.code = cL_law) (hml : c.maxLocals = 8) (hown : s.vm.findClass RL = some m.cls) (hts : ∀ w ∈ c0 :: wsL_law, w.before args s = true) (hV : va_P D vwCl (kW yy oa O (pV yy h0 an B B2 F G F2 G2 M) (mW yy A FM GM) sa L xs) H) (hK : va_K D vwCl (jT yy) s) (hT : jTP Z s) (hN : jNc s) (hD : va_D Z (kW yy oa O (pV yy h0 an B B2 F G F2 G2 M) (mW yy A FM GM) sa L xs)) (hS : va_S Z s.heap H locs) (hA : ∀ q, s.heap.size ≤ q → Z q) (hX0 : va_X sa L xs s s.heap) (hbl : sa < s.heap.size) (hbA : ¬ Z sa) (hl : lv_has ls 8 [(4, .int i), (3, .ref oa), (2, .ref (A 99)), (1, .ref h0), (0, .ref sa)]) (hf : cells + 9 ≤ rmLaw.cells ∧ slots + 64 ≤ rmLaw.slots)
    (kk : ∀ (B1 : Nat → Nat) (F1 : jF) (G1 : jG) (M1 : jF) (x6 : Int32) (FM1 : jF) (GM1 : jG) (O1 : Nat → Int64) (H : Heap) (locs : List Loc) (ls : Array Slot), ((∃ x, (gX11_endYear F G M ) = (0, (x, ((F1, G1), M1)))) ∨ ((gX11_endYear F G M ).1 ≠ 0 ∧ B1 = B ∧ F1 = F ∧ G1 = G ∧ M1 = M)) → (∀ k, k < 100 → B1 k = B k) → (x6, (FM1, GM1)) = (gX12_endYear FM GM ) → va_P D vwCl (kW yy oa O1 (pV yy h0 an B1 B2 F1 G1 F2 G2 M1) (mW yy A FM1 GM1) sa L xs) H → va_D Z (kW yy oa O1 (pV yy h0 an B1 B2 F1 G1 F2 G2 M1) (mW yy A FM1 GM1) sa L xs) → va_S Z s.heap H locs → lv_has ls 8 [(4, .int i), (3, .ref oa), (2, .ref (A 99)), (1, .ref h0), (0, .ref sa)] → W p l e rmLaw s m args below meth c H locs (cells + 9) (slots + 64) Q (F0 m 2515 ls [])) : W p l e rmLaw s m args below meth c H locs cells slots Q (F0 m 1630 ls []) := by
  refine lv_aload_n hx hb (dd_of dL_law_24 35 rfl) rfl (lv_at hl 3 rfl) ?_
  refine lv_aload_n hx hb (dd_of dL_law_24 36 rfl) rfl (lv_at hl 1 rfl) ?_
  have hq := qL_endYear l hl9 D yy oa h0 an O B B2 F G F2 G2 M (mW yy A FM GM ++ []) H.size  hok hcod
  refine js_i (As := [.ref h0, .ref oa]) (rest := []) (D := D) (yy := yy) (w := (kW yy oa O (pV yy h0 an B B2 F G F2 G2 M) (mW yy A FM GM) sa L xs)) (w1 := fun u : (((Nat → Nat) × jS) × jF) × (Nat → Int64) => kW yy oa u.2 (pV yy h0 an u.1.1.1 B2 u.1.1.2.1 u.1.1.2.2 F2 G2 u.1.2) (mW yy A FM GM) sa L xs) ⟨hx, hb, hml, hown, hts⟩ hq (vx_cwSW 2 hts (jgW gw956 gw957 gw173 gw958) rfl rfl rfl (by decide +kernel) ⟨Nat.le_of_ble_eq_true rfl, Nat.le_of_ble_eq_true rfl⟩) hV hK hT hN hD hS hA rfl hl.1 rfl (Nat.le_of_ble_eq_true rfl) (dd_of dL_law_24 37 rfl) hf (fun x5 u H locs hp hV hD hS => ?_)
  obtain ⟨⟨⟨B1, F1, G1⟩, M1⟩, O1⟩ := u
  obtain ⟨hp, hB1⟩ := hp
  have hB1 : ∀ k, k < 100 → B1 k = B k := hB1
  have hp : ((∃ x, (gX11_endYear F G M ) = (0, (x, ((F1, G1), M1))) ∧ x5 = 0 ∧ O1 = vp_updL O 0 (Int32.toInt64 x)) ∨ ((gX11_endYear F G M ).1 ≠ 0 ∧ x5 = wk 3 9 9 (gX11_endYear F G M ).1 ∧ (((B1, (F1, G1)), M1), O1) = (((B, (F, G)), M), O))) := hp
  have hV : va_P D vwCl (kW yy oa O1 (pV yy h0 an B1 B2 F1 G1 F2 G2 M1) (mW yy A FM GM) sa L xs) H := hV
  have hD : va_D Z (kW yy oa O1 (pV yy h0 an B1 B2 F1 G1 F2 G2 M1) (mW yy A FM GM) sa L xs) := hD
  have hk5 : x5 = wk 3 9 9 (gX11_endYear F G M ).1 := by
    rcases hp with ⟨x, h1, h2, _⟩ | ⟨_, h2, _⟩
    · rw [h2, h1]; rfl
    · exact h2
  refine lv_istore (lv' := [(5, .int x5), (4, .int i), (3, .ref oa), (2, .ref (A 99)), (1, .ref h0), (0, .ref sa)]) hx hb (dd_of dL_law_24 38 rfl) hl (by decide) rfl (fun ls hl => ?_)
  refine lv_aload_n hx hb (dd_of dL_law_24 39 rfl) rfl (lv_at hl 3 rfl) ?_
  refine jt_i (As := []) (rest := []) (D := D) (yy := yy) (oa := oa) (O := O1) (P := (pV yy h0 an B1 B2 F1 G1 F2 G2 M1)) (M := mW yy A FM GM) (w1 := fun u : jS => mW yy A u.1 u.2) ⟨hx, hb, hml, hown, hts⟩ (qX12_endYear l D yy A FM GM H.size  hok12) (cwV 0 hts (jgV gw964 gw965 gw966 gw5 gw967) rfl rfl rfl (by decide +kernel) ⟨Nat.le_of_ble_eq_true rfl, Nat.le_of_ble_eq_true rfl⟩) hV hK hD hS hA (va_recv hK (kW_M hV) (ci := 12) (q0 := 0) rfl rfl) rfl hl.1 rfl (Nat.le_of_ble_eq_true rfl) (dd_of dL_law_25 0 rfl) hf (fun x6 u H locs h6 hV hD hS => ?_)
  obtain ⟨FM1, GM1⟩ := u
  have h6 : (x6, (FM1, GM1)) = (gX12_endYear FM GM ) := h6
  have hV : va_P D vwCl (kW yy oa O1 (pV yy h0 an B1 B2 F1 G1 F2 G2 M1) (mW yy A FM1 GM1) sa L xs) H := hV
  have hD : va_D Z (kW yy oa O1 (pV yy h0 an B1 B2 F1 G1 F2 G2 M1) (mW yy A FM1 GM1) sa L xs) := hD
  refine lv_istore (lv' := [(6, .int x6), (5, .int x5), (4, .int i), (3, .ref oa), (2, .ref (A 99)), (1, .ref h0), (0, .ref sa)]) hx hb (dd_of dL_law_25 1 rfl) hl (by decide) rfl (fun ls hl => ?_)
  refine lv_aload_n hx hb (dd_of dL_law_25 2 rfl) rfl (lv_at hl 4 rfl) ?_
  refine jc_i (As := []) (rest := []) (w := mW yy A FM1 GM1) (D := D) (yy := yy) ⟨hx, hb, hml, hown, hts⟩ (qX12_thrown l D yy A FM1 GM1) (cwV 0 hts (jgV gw594 gw595 gw596 gw5 gw597) rfl rfl rfl (by decide +kernel) ⟨Nat.le_of_ble_eq_true rfl, Nat.le_of_ble_eq_true rfl⟩) (kW_M hV) hK (va_recv hK (kW_M hV) (ci := 12) (q0 := 0) rfl rfl) rfl hl.1 rfl (Nat.le_of_ble_eq_true rfl) (dd_of dL_law_25 3 rfl) hf (fun x7 e7 => ?_)
  refine lv_iload hx hb (dd_of dL_law_25 4 rfl) (lv_at hl 1 rfl) ?_
  refine lv_icmp_eq (tgt := 1654) hx hb (dd_of dL_law_25 5 rfl) (by decide) (fun c7 => ?_) (fun c7 => absurd (e7.trans ((hth _ _ _ h6).trans hk5.symm)) c7)
  have how : ((∃ x, (gX11_endYear F G M ) = (0, (x, ((F1, G1), M1)))) ∨ ((gX11_endYear F G M ).1 ≠ 0 ∧ B1 = B ∧ F1 = F ∧ G1 = G ∧ M1 = M)) := by
    rcases hp with ⟨x, h1, _, _⟩ | ⟨h1, _, h2⟩
    · exact Or.inl ⟨x, h1⟩
    · simp only [Prod.mk.injEq] at h2
      exact Or.inr ⟨h1, h2.1.1.1, h2.1.1.2.1, h2.1.1.2.2, h2.1.2⟩
  refine lv_iload hx hb (dd_of dL_law_25 8 rfl) (lv_at hl 1 rfl) ?_
  refine lv_if_ne (tgt := 1671) hx hb (dd_of dL_law_25 9 rfl) (by decide) (fun c8 => ?_) (fun c8 => ?_)
  · skip
    refine lv_goto (tgt := 2515) hx hb (dd_of dL_law_25 19 rfl) (by decide) ?_
    exact kk B1 F1 G1 M1 x6 FM1 GM1 O1 H locs ls how hB1 h6 hV hD hS (lv_sub hl [2, 3, 4, 5, 6] rfl)
  · skip
    have hO := kW_O hV
    have h9 : O1 0 = Int32.toInt64 x6 := by
      rcases hp with ⟨x, h1, _, h2⟩ | ⟨h1, h2, _⟩
      · rw [h2]; exact hval _ _ _ _ h1 h6
      · exfalso; rw [h2] at c8; rcases hcod with hq | hq <;> first | exact h1 hq | (rw [hq] at c8; exact absurd c8 (by decide))
    refine lv_aload_n hx hb (dd_of dL_law_25 10 rfl) rfl (lv_at hl 3 rfl) ?_
    refine lv_iconst (v := 0) hx hb (dd_of dL_law_25 11 rfl) (by decide) ?_
    refine va_lald hx hb hK hO 0 1 rfl rfl (vin_lit (by decide)) (dd_of dL_law_25 12 rfl) ?_
    refine lv_iload hx hb (dd_of dL_law_25 13 rfl) (lv_at hl 0 rfl) ?_
    refine lv_i2l (v := Int32.toInt64 x6) hx hb (dd_of dL_law_25 14 rfl) rfl ?_
    refine jl_eq (tgt := 1671) hx hb (dd_of dL_law_25 15 rfl) (dd_of dL_law_25 16 rfl) (by decide) (fun c10 => ?_) (fun c10 => absurd h9 c10)
    refine lv_goto (tgt := 2515) hx hb (dd_of dL_law_25 19 rfl) (by decide) ?_
    exact kk B1 F1 G1 M1 x6 FM1 GM1 O1 H locs ls how hB1 h6 hV hD hS (lv_sub hl [2, 3, 4, 5, 6] rfl)
set_option maxHeartbeats 4000000 in
set_option maxRecDepth 100000 in
theorem cs_level {p : Program} {l : Launch} {e : Env} {s : State} {m : MethodId} {args : Array Value} {below : List Frame} {meth : Method} {c : Code} {H : Heap} {locs : List Loc} {cells slots : Nat} {Q : State → Prop} {ls : Array Slot} {c0 : Cond} {D : va_G} {yy : Nat → ClassId} {Z : Nat → Prop} (hl9 : l.stackTraces = false) (oa h0 an sa L : Nat) (i : Int32) (xs : Nat → Int32) (O : Nat → Int64) (A B B2 : Nat → Nat) (F : jF) (G : jG) (F2 : jF) (G2 : jG) (M FM : jF) (GM : jG) (a1 : Int32) (hi1 : vp_in (i + 1) L) (ha1 : xs (Int32.toNatClampNeg (i + 1)) = a1) (hok : okX11_level F G M a1) (hcod : (gX11_level F G M a1).1 = 0 ∨ (gX11_level F G M a1).1 = 1) (hok12 : okX12_level FM GM a1) (hth : ∀ (x6 : Int64) (FM1 : jF) (GM1 : jG), (x6, (FM1, GM1)) = (gX12_level FM GM a1) → gX12_thrown FM1 GM1 = wk 1 9 9 (gX11_level F G M a1).1) (hval : ∀ x x6 st6, (gX11_level F G M a1) = (0, x) → (x6, st6) = (gX12_level FM GM a1) → x = x6) (hx : p.tables.exec = Jvm.exec) (hb : c.code = cL_law) (hml : c.maxLocals = 8) (hown : s.vm.findClass RL = some m.cls) (hts : ∀ w ∈ c0 :: wsL_law, w.before args s = true) (hV : va_P D vwCl (kW yy oa O (pV yy h0 an B B2 F G F2 G2 M) (mW yy A FM GM) sa L xs) H) (hK : va_K D vwCl (jT yy) s) (hT : jTP Z s) (hN : jNc s) (hD : va_D Z (kW yy oa O (pV yy h0 an B B2 F G F2 G2 M) (mW yy A FM GM) sa L xs)) (hS : va_S Z s.heap H locs) (hA : ∀ q, s.heap.size ≤ q → Z q) (hX0 : va_X sa L xs s s.heap) (hbl : sa < s.heap.size) (hbA : ¬ Z sa) (hl : lv_has ls 8 [(4, .int i), (3, .ref oa), (2, .ref (A 99)), (1, .ref h0), (0, .ref sa)]) (hf : cells + 9 ≤ rmLaw.cells ∧ slots + 64 ≤ rmLaw.slots)
    (kk : ∀ (x6 : Int64) (FM1 : jF) (GM1 : jG) (O1 : Nat → Int64) (H : Heap) (locs : List Loc) (ls : Array Slot), (x6, (FM1, GM1)) = (gX12_level FM GM a1) → va_P D vwCl (kW yy oa O1 (pV yy h0 an B B2 F G F2 G2 M) (mW yy A FM1 GM1) sa L xs) H → va_D Z (kW yy oa O1 (pV yy h0 an B B2 F G F2 G2 M) (mW yy A FM1 GM1) sa L xs) → va_S Z s.heap H locs → lv_has ls 8 [(4, .int i), (3, .ref oa), (2, .ref (A 99)), (1, .ref h0), (0, .ref sa)] → W p l e rmLaw s m args below meth c H locs (cells + 9) (slots + 64) Q (F0 m 2515 ls [])) : W p l e rmLaw s m args below meth c H locs cells slots Q (F0 m 1700 ls []) := by
  refine lv_aload_n hx hb (dd_of dL_law_25 34 rfl) rfl (lv_at hl 3 rfl) ?_
  refine lv_aload_n hx hb (dd_of dL_law_25 35 rfl) rfl (lv_at hl 4 rfl) ?_
  refine lv_iload hx hb (dd_of dL_law_25 36 rfl) (lv_at hl 0 rfl) ?_
  refine lv_iconst (v := 1) hx hb (dd_of dL_law_25 37 rfl) (by decide) ?_
  refine lv_iadd hx hb (dd_of dL_law_25 38 rfl) ?_
  refine va_sld hx hb hX0 hbl hbA hS hi1 (dd_of dL_law_25 39 rfl) ?_
  rw [ha1]
  refine lv_aload_n hx hb (dd_of dL_law_26 0 rfl) rfl (lv_at hl 1 rfl) ?_
  have hq := qL_level l hl9 D yy oa h0 an O B B2 F G F2 G2 M (mW yy A FM GM ++ []) H.size a1 hok hcod
  refine js_i (As := [.ref h0, .int a1, .ref oa]) (rest := []) (D := D) (yy := yy) (w := (kW yy oa O (pV yy h0 an B B2 F G F2 G2 M) (mW yy A FM GM) sa L xs)) (w1 := fun u : Nat → Int64 => kW yy oa u (pV yy h0 an B B2 F G F2 G2 M) (mW yy A FM GM) sa L xs) ⟨hx, hb, hml, hown, hts⟩ hq (vx_cwSW 3 hts (jgW gw985 gw986 gw173 gw987) rfl rfl rfl (by decide +kernel) ⟨Nat.le_of_ble_eq_true rfl, Nat.le_of_ble_eq_true rfl⟩) hV hK hT hN hD hS hA rfl hl.1 rfl (Nat.le_of_ble_eq_true rfl) (dd_of dL_law_26 1 rfl) hf (fun x5 u H locs hp hV hD hS => ?_)
  obtain ⟨O1, hO1⟩ : ∃ z, z = u := ⟨_, rfl⟩
  rw [← hO1] at hp hV hD
  have hp : ((∃ x, (gX11_level F G M a1) = (0, x) ∧ x5 = 0 ∧ O1 = vp_updL O 0 (x)) ∨ ((gX11_level F G M a1).1 ≠ 0 ∧ x5 = wk 1 9 9 (gX11_level F G M a1).1 ∧ O1 = O)) := hp
  have hV : va_P D vwCl (kW yy oa O1 (pV yy h0 an B B2 F G F2 G2 M) (mW yy A FM GM) sa L xs) H := hV
  have hD : va_D Z (kW yy oa O1 (pV yy h0 an B B2 F G F2 G2 M) (mW yy A FM GM) sa L xs) := hD
  have hk5 : x5 = wk 1 9 9 (gX11_level F G M a1).1 := by
    rcases hp with ⟨x, h1, h2, _⟩ | ⟨_, h2, _⟩
    · rw [h2, h1]; rfl
    · exact h2
  refine lv_istore (lv' := [(5, .int x5), (4, .int i), (3, .ref oa), (2, .ref (A 99)), (1, .ref h0), (0, .ref sa)]) hx hb (dd_of dL_law_26 2 rfl) hl (by decide) rfl (fun ls hl => ?_)
  refine lv_aload_n hx hb (dd_of dL_law_26 3 rfl) rfl (lv_at hl 3 rfl) ?_
  refine lv_aload_n hx hb (dd_of dL_law_26 4 rfl) rfl (lv_at hl 5 rfl) ?_
  refine lv_iload hx hb (dd_of dL_law_26 5 rfl) (lv_at hl 1 rfl) ?_
  refine lv_iconst (v := 1) hx hb (dd_of dL_law_26 6 rfl) (by decide) ?_
  refine lv_iadd hx hb (dd_of dL_law_26 7 rfl) ?_
  refine va_sld hx hb hX0 hbl hbA hS hi1 (dd_of dL_law_26 8 rfl) ?_
  rw [ha1]
  refine jt_l (As := [.int a1]) (rest := []) (D := D) (yy := yy) (oa := oa) (O := O1) (P := (pV yy h0 an B B2 F G F2 G2 M)) (M := mW yy A FM GM) (w1 := fun u : jS => mW yy A u.1 u.2) ⟨hx, hb, hml, hown, hts⟩ (qX12_level l D yy A FM GM H.size a1 hok12) (cwV 1 hts (jgV gw993 gw994 gw995 gw5 gw996) rfl rfl rfl (by decide +kernel) ⟨Nat.le_of_ble_eq_true rfl, Nat.le_of_ble_eq_true rfl⟩) hV hK hD hS hA (va_recv hK (kW_M hV) (ci := 12) (q0 := 0) rfl rfl) rfl hl.1 rfl (Nat.le_of_ble_eq_true rfl) (dd_of dL_law_26 9 rfl) hf (fun x6 u H locs h6 hV hD hS => ?_)
  obtain ⟨FM1, GM1⟩ := u
  have h6 : (x6, (FM1, GM1)) = (gX12_level FM GM a1) := h6
  have hV : va_P D vwCl (kW yy oa O1 (pV yy h0 an B B2 F G F2 G2 M) (mW yy A FM1 GM1) sa L xs) H := hV
  have hD : va_D Z (kW yy oa O1 (pV yy h0 an B B2 F G F2 G2 M) (mW yy A FM1 GM1) sa L xs) := hD
  refine lv_lstore (lv' := [(6, .long x6), (5, .int x5), (4, .int i), (3, .ref oa), (2, .ref (A 99)), (1, .ref h0), (0, .ref sa)]) hx hb (dd_of dL_law_26 10 rfl) hl (by decide) rfl (fun ls hl => ?_)
  refine lv_aload_n hx hb (dd_of dL_law_26 11 rfl) rfl (lv_at hl 4 rfl) ?_
  refine jc_i (As := []) (rest := []) (w := mW yy A FM1 GM1) (D := D) (yy := yy) ⟨hx, hb, hml, hown, hts⟩ (qX12_thrown l D yy A FM1 GM1) (cwV 0 hts (jgV gw594 gw595 gw596 gw5 gw597) rfl rfl rfl (by decide +kernel) ⟨Nat.le_of_ble_eq_true rfl, Nat.le_of_ble_eq_true rfl⟩) (kW_M hV) hK (va_recv hK (kW_M hV) (ci := 12) (q0 := 0) rfl rfl) rfl hl.1 rfl (Nat.le_of_ble_eq_true rfl) (dd_of dL_law_26 12 rfl) hf (fun x7 e7 => ?_)
  refine lv_iload hx hb (dd_of dL_law_26 13 rfl) (lv_at hl 1 rfl) ?_
  refine lv_icmp_eq (tgt := 1736) hx hb (dd_of dL_law_26 14 rfl) (by decide) (fun c7 => ?_) (fun c7 => absurd (e7.trans ((hth _ _ _ h6).trans hk5.symm)) c7)
  refine lv_iload hx hb (dd_of dL_law_26 17 rfl) (lv_at hl 1 rfl) ?_
  refine lv_if_ne (tgt := 1752) hx hb (dd_of dL_law_26 18 rfl) (by decide) (fun c8 => ?_) (fun c8 => ?_)
  · skip
    refine lv_goto (tgt := 2515) hx hb (dd_of dL_law_26 27 rfl) (by decide) ?_
    exact kk x6 FM1 GM1 O1 H locs ls h6 hV hD hS (lv_sub hl [2, 3, 4, 5, 6] rfl)
  · skip
    have hO := kW_O hV
    have h9 : O1 0 = x6 := by
      rcases hp with ⟨x, h1, _, h2⟩ | ⟨h1, h2, _⟩
      · rw [h2]; exact hval _ _ _ h1 h6
      · exfalso; rw [h2] at c8; rcases hcod with hq | hq <;> first | exact h1 hq | (rw [hq] at c8; exact absurd c8 (by decide))
    refine lv_aload_n hx hb (dd_of dL_law_26 19 rfl) rfl (lv_at hl 3 rfl) ?_
    refine lv_iconst (v := 0) hx hb (dd_of dL_law_26 20 rfl) (by decide) ?_
    refine va_lald hx hb hK hO 0 1 rfl rfl (vin_lit (by decide)) (dd_of dL_law_26 21 rfl) ?_
    refine lv_lload hx hb (dd_of dL_law_26 22 rfl) (lv_at hl 0 rfl) ?_
    refine jl_eq (tgt := 1752) hx hb (dd_of dL_law_26 23 rfl) (dd_of dL_law_26 24 rfl) (by decide) (fun c10 => ?_) (fun c10 => absurd h9 c10)
    refine lv_goto (tgt := 2515) hx hb (dd_of dL_law_26 27 rfl) (by decide) ?_
    exact kk x6 FM1 GM1 O1 H locs ls h6 hV hD hS (lv_sub hl [2, 3, 4, 5, 6] rfl)
set_option maxHeartbeats 4000000 in
set_option maxRecDepth 100000 in
theorem cs_water {p : Program} {l : Launch} {e : Env} {s : State} {m : MethodId} {args : Array Value} {below : List Frame} {meth : Method} {c : Code} {H : Heap} {locs : List Loc} {cells slots : Nat} {Q : State → Prop} {ls : Array Slot} {c0 : Cond} {D : va_G} {yy : Nat → ClassId} {Z : Nat → Prop} (hl9 : l.stackTraces = false) (oa h0 an sa L : Nat) (i : Int32) (xs : Nat → Int32) (O : Nat → Int64) (A B B2 : Nat → Nat) (F : jF) (G : jG) (F2 : jF) (G2 : jG) (M FM : jF) (GM : jG) (a1 : Int32) (hi1 : vp_in (i + 1) L) (ha1 : xs (Int32.toNatClampNeg (i + 1)) = a1) (hok : okX11_water F G M a1) (hcod : (gX11_water F G M a1).1 = 0 ∨ (gX11_water F G M a1).1 = 1) (hok12 : okX12_water FM GM a1) (hth : ∀ (x6 : Int64) (FM1 : jF) (GM1 : jG), (x6, (FM1, GM1)) = (gX12_water FM GM a1) → gX12_thrown FM1 GM1 = wk 1 9 9 (gX11_water F G M a1).1) (hval : ∀ x x6 st6, (gX11_water F G M a1) = (0, x) → (x6, st6) = (gX12_water FM GM a1) → x = x6) (hx : p.tables.exec = Jvm.exec) (hb : c.code = cL_law) (hml : c.maxLocals = 8) (hown : s.vm.findClass RL = some m.cls) (hts : ∀ w ∈ c0 :: wsL_law, w.before args s = true) (hV : va_P D vwCl (kW yy oa O (pV yy h0 an B B2 F G F2 G2 M) (mW yy A FM GM) sa L xs) H) (hK : va_K D vwCl (jT yy) s) (hT : jTP Z s) (hN : jNc s) (hD : va_D Z (kW yy oa O (pV yy h0 an B B2 F G F2 G2 M) (mW yy A FM GM) sa L xs)) (hS : va_S Z s.heap H locs) (hA : ∀ q, s.heap.size ≤ q → Z q) (hX0 : va_X sa L xs s s.heap) (hbl : sa < s.heap.size) (hbA : ¬ Z sa) (hl : lv_has ls 8 [(4, .int i), (3, .ref oa), (2, .ref (A 99)), (1, .ref h0), (0, .ref sa)]) (hf : cells + 9 ≤ rmLaw.cells ∧ slots + 64 ≤ rmLaw.slots)
    (kk : ∀ (x6 : Int64) (FM1 : jF) (GM1 : jG) (O1 : Nat → Int64) (H : Heap) (locs : List Loc) (ls : Array Slot), (x6, (FM1, GM1)) = (gX12_water FM GM a1) → va_P D vwCl (kW yy oa O1 (pV yy h0 an B B2 F G F2 G2 M) (mW yy A FM1 GM1) sa L xs) H → va_D Z (kW yy oa O1 (pV yy h0 an B B2 F G F2 G2 M) (mW yy A FM1 GM1) sa L xs) → va_S Z s.heap H locs → lv_has ls 8 [(4, .int i), (3, .ref oa), (2, .ref (A 99)), (1, .ref h0), (0, .ref sa)] → W p l e rmLaw s m args below meth c H locs (cells + 9) (slots + 64) Q (F0 m 2515 ls [])) : W p l e rmLaw s m args below meth c H locs cells slots Q (F0 m 1755 ls []) := by
  refine lv_aload_n hx hb (dd_of dL_law_26 28 rfl) rfl (lv_at hl 3 rfl) ?_
  refine lv_aload_n hx hb (dd_of dL_law_26 29 rfl) rfl (lv_at hl 4 rfl) ?_
  refine lv_iload hx hb (dd_of dL_law_26 30 rfl) (lv_at hl 0 rfl) ?_
  refine lv_iconst (v := 1) hx hb (dd_of dL_law_26 31 rfl) (by decide) ?_
  refine lv_iadd hx hb (dd_of dL_law_26 32 rfl) ?_
  refine va_sld hx hb hX0 hbl hbA hS hi1 (dd_of dL_law_26 33 rfl) ?_
  rw [ha1]
  refine lv_aload_n hx hb (dd_of dL_law_26 34 rfl) rfl (lv_at hl 1 rfl) ?_
  have hq := qL_water l hl9 D yy oa h0 an O B B2 F G F2 G2 M (mW yy A FM GM ++ []) H.size a1 hok hcod
  refine js_i (As := [.ref h0, .int a1, .ref oa]) (rest := []) (D := D) (yy := yy) (w := (kW yy oa O (pV yy h0 an B B2 F G F2 G2 M) (mW yy A FM GM) sa L xs)) (w1 := fun u : Nat → Int64 => kW yy oa u (pV yy h0 an B B2 F G F2 G2 M) (mW yy A FM GM) sa L xs) ⟨hx, hb, hml, hown, hts⟩ hq (vx_cwSW 3 hts (jgW gw997 gw998 gw173 gw999) rfl rfl rfl (by decide +kernel) ⟨Nat.le_of_ble_eq_true rfl, Nat.le_of_ble_eq_true rfl⟩) hV hK hT hN hD hS hA rfl hl.1 rfl (Nat.le_of_ble_eq_true rfl) (dd_of dL_law_26 35 rfl) hf (fun x5 u H locs hp hV hD hS => ?_)
  obtain ⟨O1, hO1⟩ : ∃ z, z = u := ⟨_, rfl⟩
  rw [← hO1] at hp hV hD
  have hp : ((∃ x, (gX11_water F G M a1) = (0, x) ∧ x5 = 0 ∧ O1 = vp_updL O 0 (x)) ∨ ((gX11_water F G M a1).1 ≠ 0 ∧ x5 = wk 1 9 9 (gX11_water F G M a1).1 ∧ O1 = O)) := hp
  have hV : va_P D vwCl (kW yy oa O1 (pV yy h0 an B B2 F G F2 G2 M) (mW yy A FM GM) sa L xs) H := hV
  have hD : va_D Z (kW yy oa O1 (pV yy h0 an B B2 F G F2 G2 M) (mW yy A FM GM) sa L xs) := hD
  have hk5 : x5 = wk 1 9 9 (gX11_water F G M a1).1 := by
    rcases hp with ⟨x, h1, h2, _⟩ | ⟨_, h2, _⟩
    · rw [h2, h1]; rfl
    · exact h2
  refine lv_istore (lv' := [(5, .int x5), (4, .int i), (3, .ref oa), (2, .ref (A 99)), (1, .ref h0), (0, .ref sa)]) hx hb (dd_of dL_law_26 36 rfl) hl (by decide) rfl (fun ls hl => ?_)
  refine lv_aload_n hx hb (dd_of dL_law_26 37 rfl) rfl (lv_at hl 3 rfl) ?_
  refine lv_aload_n hx hb (dd_of dL_law_26 38 rfl) rfl (lv_at hl 5 rfl) ?_
  refine lv_iload hx hb (dd_of dL_law_26 39 rfl) (lv_at hl 1 rfl) ?_
  refine lv_iconst (v := 1) hx hb (dd_of dL_law_27 0 rfl) (by decide) ?_
  refine lv_iadd hx hb (dd_of dL_law_27 1 rfl) ?_
  refine va_sld hx hb hX0 hbl hbA hS hi1 (dd_of dL_law_27 2 rfl) ?_
  rw [ha1]
  refine jt_l (As := [.int a1]) (rest := []) (D := D) (yy := yy) (oa := oa) (O := O1) (P := (pV yy h0 an B B2 F G F2 G2 M)) (M := mW yy A FM GM) (w1 := fun u : jS => mW yy A u.1 u.2) ⟨hx, hb, hml, hown, hts⟩ (qX12_water l D yy A FM GM H.size a1 hok12) (cwV 1 hts (jgV gw1005 gw1006 gw1007 gw5 gw1008) rfl rfl rfl (by decide +kernel) ⟨Nat.le_of_ble_eq_true rfl, Nat.le_of_ble_eq_true rfl⟩) hV hK hD hS hA (va_recv hK (kW_M hV) (ci := 12) (q0 := 0) rfl rfl) rfl hl.1 rfl (Nat.le_of_ble_eq_true rfl) (dd_of dL_law_27 3 rfl) hf (fun x6 u H locs h6 hV hD hS => ?_)
  obtain ⟨FM1, GM1⟩ := u
  have h6 : (x6, (FM1, GM1)) = (gX12_water FM GM a1) := h6
  have hV : va_P D vwCl (kW yy oa O1 (pV yy h0 an B B2 F G F2 G2 M) (mW yy A FM1 GM1) sa L xs) H := hV
  have hD : va_D Z (kW yy oa O1 (pV yy h0 an B B2 F G F2 G2 M) (mW yy A FM1 GM1) sa L xs) := hD
  refine lv_lstore (lv' := [(6, .long x6), (5, .int x5), (4, .int i), (3, .ref oa), (2, .ref (A 99)), (1, .ref h0), (0, .ref sa)]) hx hb (dd_of dL_law_27 4 rfl) hl (by decide) rfl (fun ls hl => ?_)
  refine lv_aload_n hx hb (dd_of dL_law_27 5 rfl) rfl (lv_at hl 4 rfl) ?_
  refine jc_i (As := []) (rest := []) (w := mW yy A FM1 GM1) (D := D) (yy := yy) ⟨hx, hb, hml, hown, hts⟩ (qX12_thrown l D yy A FM1 GM1) (cwV 0 hts (jgV gw594 gw595 gw596 gw5 gw597) rfl rfl rfl (by decide +kernel) ⟨Nat.le_of_ble_eq_true rfl, Nat.le_of_ble_eq_true rfl⟩) (kW_M hV) hK (va_recv hK (kW_M hV) (ci := 12) (q0 := 0) rfl rfl) rfl hl.1 rfl (Nat.le_of_ble_eq_true rfl) (dd_of dL_law_27 6 rfl) hf (fun x7 e7 => ?_)
  refine lv_iload hx hb (dd_of dL_law_27 7 rfl) (lv_at hl 1 rfl) ?_
  refine lv_icmp_eq (tgt := 1791) hx hb (dd_of dL_law_27 8 rfl) (by decide) (fun c7 => ?_) (fun c7 => absurd (e7.trans ((hth _ _ _ h6).trans hk5.symm)) c7)
  refine lv_iload hx hb (dd_of dL_law_27 11 rfl) (lv_at hl 1 rfl) ?_
  refine lv_if_ne (tgt := 1807) hx hb (dd_of dL_law_27 12 rfl) (by decide) (fun c8 => ?_) (fun c8 => ?_)
  · skip
    refine lv_goto (tgt := 2515) hx hb (dd_of dL_law_27 21 rfl) (by decide) ?_
    exact kk x6 FM1 GM1 O1 H locs ls h6 hV hD hS (lv_sub hl [2, 3, 4, 5, 6] rfl)
  · skip
    have hO := kW_O hV
    have h9 : O1 0 = x6 := by
      rcases hp with ⟨x, h1, _, h2⟩ | ⟨h1, h2, _⟩
      · rw [h2]; exact hval _ _ _ h1 h6
      · exfalso; rw [h2] at c8; rcases hcod with hq | hq <;> first | exact h1 hq | (rw [hq] at c8; exact absurd c8 (by decide))
    refine lv_aload_n hx hb (dd_of dL_law_27 13 rfl) rfl (lv_at hl 3 rfl) ?_
    refine lv_iconst (v := 0) hx hb (dd_of dL_law_27 14 rfl) (by decide) ?_
    refine va_lald hx hb hK hO 0 1 rfl rfl (vin_lit (by decide)) (dd_of dL_law_27 15 rfl) ?_
    refine lv_lload hx hb (dd_of dL_law_27 16 rfl) (lv_at hl 0 rfl) ?_
    refine jl_eq (tgt := 1807) hx hb (dd_of dL_law_27 17 rfl) (dd_of dL_law_27 18 rfl) (by decide) (fun c10 => ?_) (fun c10 => absurd h9 c10)
    refine lv_goto (tgt := 2515) hx hb (dd_of dL_law_27 21 rfl) (by decide) ?_
    exact kk x6 FM1 GM1 O1 H locs ls h6 hV hD hS (lv_sub hl [2, 3, 4, 5, 6] rfl)
set_option maxHeartbeats 4000000 in
set_option maxRecDepth 100000 in
theorem cs_harm {p : Program} {l : Launch} {e : Env} {s : State} {m : MethodId} {args : Array Value} {below : List Frame} {meth : Method} {c : Code} {H : Heap} {locs : List Loc} {cells slots : Nat} {Q : State → Prop} {ls : Array Slot} {c0 : Cond} {D : va_G} {yy : Nat → ClassId} {Z : Nat → Prop} (hl9 : l.stackTraces = false) (oa h0 an sa L : Nat) (i : Int32) (xs : Nat → Int32) (O : Nat → Int64) (A B B2 : Nat → Nat) (F : jF) (G : jG) (F2 : jF) (G2 : jG) (M FM : jF) (GM : jG) (a1 : Int32) (hi1 : vp_in (i + 1) L) (ha1 : xs (Int32.toNatClampNeg (i + 1)) = a1) (hok : okX11_harm F G M a1) (hcod : (gX11_harm F G M a1).1 = 0 ∨ (gX11_harm F G M a1).1 = 1) (hok12 : okX12_harm FM GM a1) (hth : ∀ (x6 : Int64) (FM1 : jF) (GM1 : jG), (x6, (FM1, GM1)) = (gX12_harm FM GM a1) → gX12_thrown FM1 GM1 = wk 1 9 9 (gX11_harm F G M a1).1) (hval : ∀ x x6 st6, (gX11_harm F G M a1) = (0, x) → (x6, st6) = (gX12_harm FM GM a1) → x = x6) (hx : p.tables.exec = Jvm.exec) (hb : c.code = cL_law) (hml : c.maxLocals = 8) (hown : s.vm.findClass RL = some m.cls) (hts : ∀ w ∈ c0 :: wsL_law, w.before args s = true) (hV : va_P D vwCl (kW yy oa O (pV yy h0 an B B2 F G F2 G2 M) (mW yy A FM GM) sa L xs) H) (hK : va_K D vwCl (jT yy) s) (hT : jTP Z s) (hN : jNc s) (hD : va_D Z (kW yy oa O (pV yy h0 an B B2 F G F2 G2 M) (mW yy A FM GM) sa L xs)) (hS : va_S Z s.heap H locs) (hA : ∀ q, s.heap.size ≤ q → Z q) (hX0 : va_X sa L xs s s.heap) (hbl : sa < s.heap.size) (hbA : ¬ Z sa) (hl : lv_has ls 8 [(4, .int i), (3, .ref oa), (2, .ref (A 99)), (1, .ref h0), (0, .ref sa)]) (hf : cells + 9 ≤ rmLaw.cells ∧ slots + 64 ≤ rmLaw.slots)
    (kk : ∀ (x6 : Int64) (FM1 : jF) (GM1 : jG) (O1 : Nat → Int64) (H : Heap) (locs : List Loc) (ls : Array Slot), (x6, (FM1, GM1)) = (gX12_harm FM GM a1) → va_P D vwCl (kW yy oa O1 (pV yy h0 an B B2 F G F2 G2 M) (mW yy A FM1 GM1) sa L xs) H → va_D Z (kW yy oa O1 (pV yy h0 an B B2 F G F2 G2 M) (mW yy A FM1 GM1) sa L xs) → va_S Z s.heap H locs → lv_has ls 8 [(4, .int i), (3, .ref oa), (2, .ref (A 99)), (1, .ref h0), (0, .ref sa)] → W p l e rmLaw s m args below meth c H locs (cells + 9) (slots + 64) Q (F0 m 2515 ls [])) : W p l e rmLaw s m args below meth c H locs cells slots Q (F0 m 1810 ls []) := by
  refine lv_aload_n hx hb (dd_of dL_law_27 22 rfl) rfl (lv_at hl 3 rfl) ?_
  refine lv_aload_n hx hb (dd_of dL_law_27 23 rfl) rfl (lv_at hl 4 rfl) ?_
  refine lv_iload hx hb (dd_of dL_law_27 24 rfl) (lv_at hl 0 rfl) ?_
  refine lv_iconst (v := 1) hx hb (dd_of dL_law_27 25 rfl) (by decide) ?_
  refine lv_iadd hx hb (dd_of dL_law_27 26 rfl) ?_
  refine va_sld hx hb hX0 hbl hbA hS hi1 (dd_of dL_law_27 27 rfl) ?_
  rw [ha1]
  refine lv_aload_n hx hb (dd_of dL_law_27 28 rfl) rfl (lv_at hl 1 rfl) ?_
  have hq := qL_harm l hl9 D yy oa h0 an O B B2 F G F2 G2 M (mW yy A FM GM ++ []) H.size a1 hok hcod
  refine js_i (As := [.ref h0, .int a1, .ref oa]) (rest := []) (D := D) (yy := yy) (w := (kW yy oa O (pV yy h0 an B B2 F G F2 G2 M) (mW yy A FM GM) sa L xs)) (w1 := fun u : Nat → Int64 => kW yy oa u (pV yy h0 an B B2 F G F2 G2 M) (mW yy A FM GM) sa L xs) ⟨hx, hb, hml, hown, hts⟩ hq (vx_cwSW 3 hts (jgW gw1009 gw1010 gw173 gw1011) rfl rfl rfl (by decide +kernel) ⟨Nat.le_of_ble_eq_true rfl, Nat.le_of_ble_eq_true rfl⟩) hV hK hT hN hD hS hA rfl hl.1 rfl (Nat.le_of_ble_eq_true rfl) (dd_of dL_law_27 29 rfl) hf (fun x5 u H locs hp hV hD hS => ?_)
  obtain ⟨O1, hO1⟩ : ∃ z, z = u := ⟨_, rfl⟩
  rw [← hO1] at hp hV hD
  have hp : ((∃ x, (gX11_harm F G M a1) = (0, x) ∧ x5 = 0 ∧ O1 = vp_updL O 0 (x)) ∨ ((gX11_harm F G M a1).1 ≠ 0 ∧ x5 = wk 1 9 9 (gX11_harm F G M a1).1 ∧ O1 = O)) := hp
  have hV : va_P D vwCl (kW yy oa O1 (pV yy h0 an B B2 F G F2 G2 M) (mW yy A FM GM) sa L xs) H := hV
  have hD : va_D Z (kW yy oa O1 (pV yy h0 an B B2 F G F2 G2 M) (mW yy A FM GM) sa L xs) := hD
  have hk5 : x5 = wk 1 9 9 (gX11_harm F G M a1).1 := by
    rcases hp with ⟨x, h1, h2, _⟩ | ⟨_, h2, _⟩
    · rw [h2, h1]; rfl
    · exact h2
  refine lv_istore (lv' := [(5, .int x5), (4, .int i), (3, .ref oa), (2, .ref (A 99)), (1, .ref h0), (0, .ref sa)]) hx hb (dd_of dL_law_27 30 rfl) hl (by decide) rfl (fun ls hl => ?_)
  refine lv_aload_n hx hb (dd_of dL_law_27 31 rfl) rfl (lv_at hl 3 rfl) ?_
  refine lv_aload_n hx hb (dd_of dL_law_27 32 rfl) rfl (lv_at hl 5 rfl) ?_
  refine lv_iload hx hb (dd_of dL_law_27 33 rfl) (lv_at hl 1 rfl) ?_
  refine lv_iconst (v := 1) hx hb (dd_of dL_law_27 34 rfl) (by decide) ?_
  refine lv_iadd hx hb (dd_of dL_law_27 35 rfl) ?_
  refine va_sld hx hb hX0 hbl hbA hS hi1 (dd_of dL_law_27 36 rfl) ?_
  rw [ha1]
  refine jt_l (As := [.int a1]) (rest := []) (D := D) (yy := yy) (oa := oa) (O := O1) (P := (pV yy h0 an B B2 F G F2 G2 M)) (M := mW yy A FM GM) (w1 := fun u : jS => mW yy A u.1 u.2) ⟨hx, hb, hml, hown, hts⟩ (qX12_harm l D yy A FM GM H.size a1 hok12) (cwV 1 hts (jgV gw1017 gw1018 gw1019 gw5 gw1020) rfl rfl rfl (by decide +kernel) ⟨Nat.le_of_ble_eq_true rfl, Nat.le_of_ble_eq_true rfl⟩) hV hK hD hS hA (va_recv hK (kW_M hV) (ci := 12) (q0 := 0) rfl rfl) rfl hl.1 rfl (Nat.le_of_ble_eq_true rfl) (dd_of dL_law_27 37 rfl) hf (fun x6 u H locs h6 hV hD hS => ?_)
  obtain ⟨FM1, GM1⟩ := u
  have h6 : (x6, (FM1, GM1)) = (gX12_harm FM GM a1) := h6
  have hV : va_P D vwCl (kW yy oa O1 (pV yy h0 an B B2 F G F2 G2 M) (mW yy A FM1 GM1) sa L xs) H := hV
  have hD : va_D Z (kW yy oa O1 (pV yy h0 an B B2 F G F2 G2 M) (mW yy A FM1 GM1) sa L xs) := hD
  refine lv_lstore (lv' := [(6, .long x6), (5, .int x5), (4, .int i), (3, .ref oa), (2, .ref (A 99)), (1, .ref h0), (0, .ref sa)]) hx hb (dd_of dL_law_27 38 rfl) hl (by decide) rfl (fun ls hl => ?_)
  refine lv_aload_n hx hb (dd_of dL_law_27 39 rfl) rfl (lv_at hl 4 rfl) ?_
  refine jc_i (As := []) (rest := []) (w := mW yy A FM1 GM1) (D := D) (yy := yy) ⟨hx, hb, hml, hown, hts⟩ (qX12_thrown l D yy A FM1 GM1) (cwV 0 hts (jgV gw594 gw595 gw596 gw5 gw597) rfl rfl rfl (by decide +kernel) ⟨Nat.le_of_ble_eq_true rfl, Nat.le_of_ble_eq_true rfl⟩) (kW_M hV) hK (va_recv hK (kW_M hV) (ci := 12) (q0 := 0) rfl rfl) rfl hl.1 rfl (Nat.le_of_ble_eq_true rfl) (dd_of dL_law_28 0 rfl) hf (fun x7 e7 => ?_)
  refine lv_iload hx hb (dd_of dL_law_28 1 rfl) (lv_at hl 1 rfl) ?_
  refine lv_icmp_eq (tgt := 1846) hx hb (dd_of dL_law_28 2 rfl) (by decide) (fun c7 => ?_) (fun c7 => absurd (e7.trans ((hth _ _ _ h6).trans hk5.symm)) c7)
  refine lv_iload hx hb (dd_of dL_law_28 5 rfl) (lv_at hl 1 rfl) ?_
  refine lv_if_ne (tgt := 1862) hx hb (dd_of dL_law_28 6 rfl) (by decide) (fun c8 => ?_) (fun c8 => ?_)
  · skip
    refine lv_goto (tgt := 2515) hx hb (dd_of dL_law_28 15 rfl) (by decide) ?_
    exact kk x6 FM1 GM1 O1 H locs ls h6 hV hD hS (lv_sub hl [2, 3, 4, 5, 6] rfl)
  · skip
    have hO := kW_O hV
    have h9 : O1 0 = x6 := by
      rcases hp with ⟨x, h1, _, h2⟩ | ⟨h1, h2, _⟩
      · rw [h2]; exact hval _ _ _ h1 h6
      · exfalso; rw [h2] at c8; rcases hcod with hq | hq <;> first | exact h1 hq | (rw [hq] at c8; exact absurd c8 (by decide))
    refine lv_aload_n hx hb (dd_of dL_law_28 7 rfl) rfl (lv_at hl 3 rfl) ?_
    refine lv_iconst (v := 0) hx hb (dd_of dL_law_28 8 rfl) (by decide) ?_
    refine va_lald hx hb hK hO 0 1 rfl rfl (vin_lit (by decide)) (dd_of dL_law_28 9 rfl) ?_
    refine lv_lload hx hb (dd_of dL_law_28 10 rfl) (lv_at hl 0 rfl) ?_
    refine jl_eq (tgt := 1862) hx hb (dd_of dL_law_28 11 rfl) (dd_of dL_law_28 12 rfl) (by decide) (fun c10 => ?_) (fun c10 => absurd h9 c10)
    refine lv_goto (tgt := 2515) hx hb (dd_of dL_law_28 15 rfl) (by decide) ?_
    exact kk x6 FM1 GM1 O1 H locs ls h6 hV hD hS (lv_sub hl [2, 3, 4, 5, 6] rfl)
set_option maxHeartbeats 4000000 in
set_option maxRecDepth 100000 in
theorem cs_ledger {p : Program} {l : Launch} {e : Env} {s : State} {m : MethodId} {args : Array Value} {below : List Frame} {meth : Method} {c : Code} {H : Heap} {locs : List Loc} {cells slots : Nat} {Q : State → Prop} {ls : Array Slot} {c0 : Cond} {D : va_G} {yy : Nat → ClassId} {Z : Nat → Prop} (hl9 : l.stackTraces = false) (oa h0 an sa L : Nat) (i : Int32) (xs : Nat → Int32) (O : Nat → Int64) (A B B2 : Nat → Nat) (F : jF) (G : jG) (F2 : jF) (G2 : jG) (M FM : jF) (GM : jG) (a1 : Int32) (hi1 : vp_in (i + 1) L) (ha1 : xs (Int32.toNatClampNeg (i + 1)) = a1) (hok : okX11_ledger F G M a1) (hcod : (gX11_ledger F G M a1).1 = 0 ∨ (gX11_ledger F G M a1).1 = 2) (hok12 : okX12_ledger FM GM a1) (hth : ∀ (x6 : Int64) (FM1 : jF) (GM1 : jG), (x6, (FM1, GM1)) = (gX12_ledger FM GM a1) → gX12_thrown FM1 GM1 = wk 2 9 9 (gX11_ledger F G M a1).1) (hval : ∀ x x6 st6, (gX11_ledger F G M a1) = (0, x) → (x6, st6) = (gX12_ledger FM GM a1) → x = x6) (hx : p.tables.exec = Jvm.exec) (hb : c.code = cL_law) (hml : c.maxLocals = 8) (hown : s.vm.findClass RL = some m.cls) (hts : ∀ w ∈ c0 :: wsL_law, w.before args s = true) (hV : va_P D vwCl (kW yy oa O (pV yy h0 an B B2 F G F2 G2 M) (mW yy A FM GM) sa L xs) H) (hK : va_K D vwCl (jT yy) s) (hT : jTP Z s) (hN : jNc s) (hD : va_D Z (kW yy oa O (pV yy h0 an B B2 F G F2 G2 M) (mW yy A FM GM) sa L xs)) (hS : va_S Z s.heap H locs) (hA : ∀ q, s.heap.size ≤ q → Z q) (hX0 : va_X sa L xs s s.heap) (hbl : sa < s.heap.size) (hbA : ¬ Z sa) (hl : lv_has ls 8 [(4, .int i), (3, .ref oa), (2, .ref (A 99)), (1, .ref h0), (0, .ref sa)]) (hf : cells + 9 ≤ rmLaw.cells ∧ slots + 64 ≤ rmLaw.slots)
    (kk : ∀ (x6 : Int64) (FM1 : jF) (GM1 : jG) (O1 : Nat → Int64) (H : Heap) (locs : List Loc) (ls : Array Slot), (x6, (FM1, GM1)) = (gX12_ledger FM GM a1) → va_P D vwCl (kW yy oa O1 (pV yy h0 an B B2 F G F2 G2 M) (mW yy A FM1 GM1) sa L xs) H → va_D Z (kW yy oa O1 (pV yy h0 an B B2 F G F2 G2 M) (mW yy A FM1 GM1) sa L xs) → va_S Z s.heap H locs → lv_has ls 8 [(4, .int i), (3, .ref oa), (2, .ref (A 99)), (1, .ref h0), (0, .ref sa)] → W p l e rmLaw s m args below meth c H locs (cells + 9) (slots + 64) Q (F0 m 2515 ls [])) : W p l e rmLaw s m args below meth c H locs cells slots Q (F0 m 1865 ls []) := by
  refine lv_aload_n hx hb (dd_of dL_law_28 16 rfl) rfl (lv_at hl 3 rfl) ?_
  refine lv_aload_n hx hb (dd_of dL_law_28 17 rfl) rfl (lv_at hl 4 rfl) ?_
  refine lv_iload hx hb (dd_of dL_law_28 18 rfl) (lv_at hl 0 rfl) ?_
  refine lv_iconst (v := 1) hx hb (dd_of dL_law_28 19 rfl) (by decide) ?_
  refine lv_iadd hx hb (dd_of dL_law_28 20 rfl) ?_
  refine va_sld hx hb hX0 hbl hbA hS hi1 (dd_of dL_law_28 21 rfl) ?_
  rw [ha1]
  refine lv_aload_n hx hb (dd_of dL_law_28 22 rfl) rfl (lv_at hl 1 rfl) ?_
  have hq := qL_ledger l hl9 D yy oa h0 an O B B2 F G F2 G2 M (mW yy A FM GM ++ []) H.size a1 hok hcod
  refine js_i (As := [.ref h0, .int a1, .ref oa]) (rest := []) (D := D) (yy := yy) (w := (kW yy oa O (pV yy h0 an B B2 F G F2 G2 M) (mW yy A FM GM) sa L xs)) (w1 := fun u : Nat → Int64 => kW yy oa u (pV yy h0 an B B2 F G F2 G2 M) (mW yy A FM GM) sa L xs) ⟨hx, hb, hml, hown, hts⟩ hq (vx_cwSW 3 hts (jgW gw1021 gw1022 gw173 gw1023) rfl rfl rfl (by decide +kernel) ⟨Nat.le_of_ble_eq_true rfl, Nat.le_of_ble_eq_true rfl⟩) hV hK hT hN hD hS hA rfl hl.1 rfl (Nat.le_of_ble_eq_true rfl) (dd_of dL_law_28 23 rfl) hf (fun x5 u H locs hp hV hD hS => ?_)
  obtain ⟨O1, hO1⟩ : ∃ z, z = u := ⟨_, rfl⟩
  rw [← hO1] at hp hV hD
  have hp : ((∃ x, (gX11_ledger F G M a1) = (0, x) ∧ x5 = 0 ∧ O1 = vp_updL O 0 (x)) ∨ ((gX11_ledger F G M a1).1 ≠ 0 ∧ x5 = wk 2 9 9 (gX11_ledger F G M a1).1 ∧ O1 = O)) := hp
  have hV : va_P D vwCl (kW yy oa O1 (pV yy h0 an B B2 F G F2 G2 M) (mW yy A FM GM) sa L xs) H := hV
  have hD : va_D Z (kW yy oa O1 (pV yy h0 an B B2 F G F2 G2 M) (mW yy A FM GM) sa L xs) := hD
  have hk5 : x5 = wk 2 9 9 (gX11_ledger F G M a1).1 := by
    rcases hp with ⟨x, h1, h2, _⟩ | ⟨_, h2, _⟩
    · rw [h2, h1]; rfl
    · exact h2
  refine lv_istore (lv' := [(5, .int x5), (4, .int i), (3, .ref oa), (2, .ref (A 99)), (1, .ref h0), (0, .ref sa)]) hx hb (dd_of dL_law_28 24 rfl) hl (by decide) rfl (fun ls hl => ?_)
  refine lv_aload_n hx hb (dd_of dL_law_28 25 rfl) rfl (lv_at hl 3 rfl) ?_
  refine lv_aload_n hx hb (dd_of dL_law_28 26 rfl) rfl (lv_at hl 5 rfl) ?_
  refine lv_iload hx hb (dd_of dL_law_28 27 rfl) (lv_at hl 1 rfl) ?_
  refine lv_iconst (v := 1) hx hb (dd_of dL_law_28 28 rfl) (by decide) ?_
  refine lv_iadd hx hb (dd_of dL_law_28 29 rfl) ?_
  refine va_sld hx hb hX0 hbl hbA hS hi1 (dd_of dL_law_28 30 rfl) ?_
  rw [ha1]
  refine jt_l (As := [.int a1]) (rest := []) (D := D) (yy := yy) (oa := oa) (O := O1) (P := (pV yy h0 an B B2 F G F2 G2 M)) (M := mW yy A FM GM) (w1 := fun u : jS => mW yy A u.1 u.2) ⟨hx, hb, hml, hown, hts⟩ (qX12_ledger l D yy A FM GM H.size a1 hok12) (cwV 1 hts (jgV gw1032 gw1033 gw1034 gw5 gw1035) rfl rfl rfl (by decide +kernel) ⟨Nat.le_of_ble_eq_true rfl, Nat.le_of_ble_eq_true rfl⟩) hV hK hD hS hA (va_recv hK (kW_M hV) (ci := 12) (q0 := 0) rfl rfl) rfl hl.1 rfl (Nat.le_of_ble_eq_true rfl) (dd_of dL_law_28 31 rfl) hf (fun x6 u H locs h6 hV hD hS => ?_)
  obtain ⟨FM1, GM1⟩ := u
  have h6 : (x6, (FM1, GM1)) = (gX12_ledger FM GM a1) := h6
  have hV : va_P D vwCl (kW yy oa O1 (pV yy h0 an B B2 F G F2 G2 M) (mW yy A FM1 GM1) sa L xs) H := hV
  have hD : va_D Z (kW yy oa O1 (pV yy h0 an B B2 F G F2 G2 M) (mW yy A FM1 GM1) sa L xs) := hD
  refine lv_lstore (lv' := [(6, .long x6), (5, .int x5), (4, .int i), (3, .ref oa), (2, .ref (A 99)), (1, .ref h0), (0, .ref sa)]) hx hb (dd_of dL_law_28 32 rfl) hl (by decide) rfl (fun ls hl => ?_)
  refine lv_aload_n hx hb (dd_of dL_law_28 33 rfl) rfl (lv_at hl 4 rfl) ?_
  refine jc_i (As := []) (rest := []) (w := mW yy A FM1 GM1) (D := D) (yy := yy) ⟨hx, hb, hml, hown, hts⟩ (qX12_thrown l D yy A FM1 GM1) (cwV 0 hts (jgV gw594 gw595 gw596 gw5 gw597) rfl rfl rfl (by decide +kernel) ⟨Nat.le_of_ble_eq_true rfl, Nat.le_of_ble_eq_true rfl⟩) (kW_M hV) hK (va_recv hK (kW_M hV) (ci := 12) (q0 := 0) rfl rfl) rfl hl.1 rfl (Nat.le_of_ble_eq_true rfl) (dd_of dL_law_28 34 rfl) hf (fun x7 e7 => ?_)
  refine lv_iload hx hb (dd_of dL_law_28 35 rfl) (lv_at hl 1 rfl) ?_
  refine lv_icmp_eq (tgt := 1901) hx hb (dd_of dL_law_28 36 rfl) (by decide) (fun c7 => ?_) (fun c7 => absurd (e7.trans ((hth _ _ _ h6).trans hk5.symm)) c7)
  refine lv_iload hx hb (dd_of dL_law_28 39 rfl) (lv_at hl 1 rfl) ?_
  refine lv_if_ne (tgt := 1917) hx hb (dd_of dL_law_29 0 rfl) (by decide) (fun c8 => ?_) (fun c8 => ?_)
  · skip
    refine lv_goto (tgt := 2515) hx hb (dd_of dL_law_29 9 rfl) (by decide) ?_
    exact kk x6 FM1 GM1 O1 H locs ls h6 hV hD hS (lv_sub hl [2, 3, 4, 5, 6] rfl)
  · skip
    have hO := kW_O hV
    have h9 : O1 0 = x6 := by
      rcases hp with ⟨x, h1, _, h2⟩ | ⟨h1, h2, _⟩
      · rw [h2]; exact hval _ _ _ h1 h6
      · exfalso; rw [h2] at c8; rcases hcod with hq | hq <;> first | exact h1 hq | (rw [hq] at c8; exact absurd c8 (by decide))
    refine lv_aload_n hx hb (dd_of dL_law_29 1 rfl) rfl (lv_at hl 3 rfl) ?_
    refine lv_iconst (v := 0) hx hb (dd_of dL_law_29 2 rfl) (by decide) ?_
    refine va_lald hx hb hK hO 0 1 rfl rfl (vin_lit (by decide)) (dd_of dL_law_29 3 rfl) ?_
    refine lv_lload hx hb (dd_of dL_law_29 4 rfl) (lv_at hl 0 rfl) ?_
    refine jl_eq (tgt := 1917) hx hb (dd_of dL_law_29 5 rfl) (dd_of dL_law_29 6 rfl) (by decide) (fun c10 => ?_) (fun c10 => absurd h9 c10)
    refine lv_goto (tgt := 2515) hx hb (dd_of dL_law_29 9 rfl) (by decide) ?_
    exact kk x6 FM1 GM1 O1 H locs ls h6 hV hD hS (lv_sub hl [2, 3, 4, 5, 6] rfl)
set_option maxHeartbeats 4000000 in
set_option maxRecDepth 100000 in
theorem cs_isOpen {p : Program} {l : Launch} {e : Env} {s : State} {m : MethodId} {args : Array Value} {below : List Frame} {meth : Method} {c : Code} {H : Heap} {locs : List Loc} {cells slots : Nat} {Q : State → Prop} {ls : Array Slot} {c0 : Cond} {D : va_G} {yy : Nat → ClassId} {Z : Nat → Prop} (hl9 : l.stackTraces = false) (oa h0 an sa L : Nat) (i : Int32) (xs : Nat → Int32) (O : Nat → Int64) (A B B2 : Nat → Nat) (F : jF) (G : jG) (F2 : jF) (G2 : jG) (M FM : jF) (GM : jG) (a1 : Int32) (hi1 : vp_in (i + 1) L) (ha1 : xs (Int32.toNatClampNeg (i + 1)) = a1) (hok : okX11_isOpen F G M a1) (hcod : (gX11_isOpen F G M a1).1 = 0 ∨ (gX11_isOpen F G M a1).1 = 1) (hok12 : okX12_isOpen FM GM a1) (hth : ∀ (x6 : Int32) (FM1 : jF) (GM1 : jG), (x6, (FM1, GM1)) = (gX12_isOpen FM GM a1) → gX12_thrown FM1 GM1 = wk 1 9 9 (gX11_isOpen F G M a1).1) (hval : ∀ x x6 st6, (gX11_isOpen F G M a1) = (0, x) → (x6, st6) = (gX12_isOpen FM GM a1) → (if x = 0 then (0 : Int64) else 1) = (if x6 = 0 then (0 : Int64) else 1)) (hx : p.tables.exec = Jvm.exec) (hb : c.code = cL_law) (hml : c.maxLocals = 8) (hown : s.vm.findClass RL = some m.cls) (hts : ∀ w ∈ c0 :: wsL_law, w.before args s = true) (hV : va_P D vwCl (kW yy oa O (pV yy h0 an B B2 F G F2 G2 M) (mW yy A FM GM) sa L xs) H) (hK : va_K D vwCl (jT yy) s) (hT : jTP Z s) (hN : jNc s) (hD : va_D Z (kW yy oa O (pV yy h0 an B B2 F G F2 G2 M) (mW yy A FM GM) sa L xs)) (hS : va_S Z s.heap H locs) (hA : ∀ q, s.heap.size ≤ q → Z q) (hX0 : va_X sa L xs s s.heap) (hbl : sa < s.heap.size) (hbA : ¬ Z sa) (hl : lv_has ls 8 [(4, .int i), (3, .ref oa), (2, .ref (A 99)), (1, .ref h0), (0, .ref sa)]) (hf : cells + 9 ≤ rmLaw.cells ∧ slots + 64 ≤ rmLaw.slots)
    (kk : ∀ (x6 : Int32) (FM1 : jF) (GM1 : jG) (O1 : Nat → Int64) (H : Heap) (locs : List Loc) (ls : Array Slot), (x6, (FM1, GM1)) = (gX12_isOpen FM GM a1) → va_P D vwCl (kW yy oa O1 (pV yy h0 an B B2 F G F2 G2 M) (mW yy A FM1 GM1) sa L xs) H → va_D Z (kW yy oa O1 (pV yy h0 an B B2 F G F2 G2 M) (mW yy A FM1 GM1) sa L xs) → va_S Z s.heap H locs → lv_has ls 8 [(4, .int i), (3, .ref oa), (2, .ref (A 99)), (1, .ref h0), (0, .ref sa)] → W p l e rmLaw s m args below meth c H locs (cells + 9) (slots + 64) Q (F0 m 2515 ls [])) : W p l e rmLaw s m args below meth c H locs cells slots Q (F0 m 1920 ls []) := by
  refine lv_aload_n hx hb (dd_of dL_law_29 10 rfl) rfl (lv_at hl 3 rfl) ?_
  refine lv_aload_n hx hb (dd_of dL_law_29 11 rfl) rfl (lv_at hl 4 rfl) ?_
  refine lv_iload hx hb (dd_of dL_law_29 12 rfl) (lv_at hl 0 rfl) ?_
  refine lv_iconst (v := 1) hx hb (dd_of dL_law_29 13 rfl) (by decide) ?_
  refine lv_iadd hx hb (dd_of dL_law_29 14 rfl) ?_
  refine va_sld hx hb hX0 hbl hbA hS hi1 (dd_of dL_law_29 15 rfl) ?_
  rw [ha1]
  refine lv_aload_n hx hb (dd_of dL_law_29 16 rfl) rfl (lv_at hl 1 rfl) ?_
  have hq := qL_isOpen l hl9 D yy oa h0 an O B B2 F G F2 G2 M (mW yy A FM GM ++ []) H.size a1 hok hcod
  refine js_i (As := [.ref h0, .int a1, .ref oa]) (rest := []) (D := D) (yy := yy) (w := (kW yy oa O (pV yy h0 an B B2 F G F2 G2 M) (mW yy A FM GM) sa L xs)) (w1 := fun u : Nat → Int64 => kW yy oa u (pV yy h0 an B B2 F G F2 G2 M) (mW yy A FM GM) sa L xs) ⟨hx, hb, hml, hown, hts⟩ hq (vx_cwSW 3 hts (jgW gw1036 gw1037 gw173 gw1038) rfl rfl rfl (by decide +kernel) ⟨Nat.le_of_ble_eq_true rfl, Nat.le_of_ble_eq_true rfl⟩) hV hK hT hN hD hS hA rfl hl.1 rfl (Nat.le_of_ble_eq_true rfl) (dd_of dL_law_29 17 rfl) hf (fun x5 u H locs hp hV hD hS => ?_)
  obtain ⟨O1, hO1⟩ : ∃ z, z = u := ⟨_, rfl⟩
  rw [← hO1] at hp hV hD
  have hp : ((∃ x, (gX11_isOpen F G M a1) = (0, x) ∧ x5 = 0 ∧ O1 = vp_updL O 0 ((if x = 0 then (0 : Int64) else 1))) ∨ ((gX11_isOpen F G M a1).1 ≠ 0 ∧ x5 = wk 1 9 9 (gX11_isOpen F G M a1).1 ∧ O1 = O)) := hp
  have hV : va_P D vwCl (kW yy oa O1 (pV yy h0 an B B2 F G F2 G2 M) (mW yy A FM GM) sa L xs) H := hV
  have hD : va_D Z (kW yy oa O1 (pV yy h0 an B B2 F G F2 G2 M) (mW yy A FM GM) sa L xs) := hD
  have hk5 : x5 = wk 1 9 9 (gX11_isOpen F G M a1).1 := by
    rcases hp with ⟨x, h1, h2, _⟩ | ⟨_, h2, _⟩
    · rw [h2, h1]; rfl
    · exact h2
  refine lv_istore (lv' := [(5, .int x5), (4, .int i), (3, .ref oa), (2, .ref (A 99)), (1, .ref h0), (0, .ref sa)]) hx hb (dd_of dL_law_29 18 rfl) hl (by decide) rfl (fun ls hl => ?_)
  refine lv_aload_n hx hb (dd_of dL_law_29 19 rfl) rfl (lv_at hl 3 rfl) ?_
  refine lv_aload_n hx hb (dd_of dL_law_29 20 rfl) rfl (lv_at hl 5 rfl) ?_
  refine lv_iload hx hb (dd_of dL_law_29 21 rfl) (lv_at hl 1 rfl) ?_
  refine lv_iconst (v := 1) hx hb (dd_of dL_law_29 22 rfl) (by decide) ?_
  refine lv_iadd hx hb (dd_of dL_law_29 23 rfl) ?_
  refine va_sld hx hb hX0 hbl hbA hS hi1 (dd_of dL_law_29 24 rfl) ?_
  rw [ha1]
  refine jt_i (As := [.int a1]) (rest := []) (D := D) (yy := yy) (oa := oa) (O := O1) (P := (pV yy h0 an B B2 F G F2 G2 M)) (M := mW yy A FM GM) (w1 := fun u : jS => mW yy A u.1 u.2) ⟨hx, hb, hml, hown, hts⟩ (qX12_isOpen l D yy A FM GM H.size a1 hok12) (cwV 1 hts (jgV gw1044 gw1045 gw1046 gw5 gw1047) rfl rfl rfl (by decide +kernel) ⟨Nat.le_of_ble_eq_true rfl, Nat.le_of_ble_eq_true rfl⟩) hV hK hD hS hA (va_recv hK (kW_M hV) (ci := 12) (q0 := 0) rfl rfl) rfl hl.1 rfl (Nat.le_of_ble_eq_true rfl) (dd_of dL_law_29 25 rfl) hf (fun x6 u H locs h6 hV hD hS => ?_)
  obtain ⟨FM1, GM1⟩ := u
  have h6 : (x6, (FM1, GM1)) = (gX12_isOpen FM GM a1) := h6
  have hV : va_P D vwCl (kW yy oa O1 (pV yy h0 an B B2 F G F2 G2 M) (mW yy A FM1 GM1) sa L xs) H := hV
  have hD : va_D Z (kW yy oa O1 (pV yy h0 an B B2 F G F2 G2 M) (mW yy A FM1 GM1) sa L xs) := hD
  refine lv_istore (lv' := [(6, .int x6), (5, .int x5), (4, .int i), (3, .ref oa), (2, .ref (A 99)), (1, .ref h0), (0, .ref sa)]) hx hb (dd_of dL_law_29 26 rfl) hl (by decide) rfl (fun ls hl => ?_)
  refine lv_aload_n hx hb (dd_of dL_law_29 27 rfl) rfl (lv_at hl 4 rfl) ?_
  refine jc_i (As := []) (rest := []) (w := mW yy A FM1 GM1) (D := D) (yy := yy) ⟨hx, hb, hml, hown, hts⟩ (qX12_thrown l D yy A FM1 GM1) (cwV 0 hts (jgV gw594 gw595 gw596 gw5 gw597) rfl rfl rfl (by decide +kernel) ⟨Nat.le_of_ble_eq_true rfl, Nat.le_of_ble_eq_true rfl⟩) (kW_M hV) hK (va_recv hK (kW_M hV) (ci := 12) (q0 := 0) rfl rfl) rfl hl.1 rfl (Nat.le_of_ble_eq_true rfl) (dd_of dL_law_29 28 rfl) hf (fun x7 e7 => ?_)
  refine lv_iload hx hb (dd_of dL_law_29 29 rfl) (lv_at hl 1 rfl) ?_
  refine lv_icmp_eq (tgt := 1956) hx hb (dd_of dL_law_29 30 rfl) (by decide) (fun c7 => ?_) (fun c7 => absurd (e7.trans ((hth _ _ _ h6).trans hk5.symm)) c7)
  refine lv_iload hx hb (dd_of dL_law_29 33 rfl) (lv_at hl 1 rfl) ?_
  refine lv_if_ne (tgt := 1980) hx hb (dd_of dL_law_29 34 rfl) (by decide) (fun c8 => ?_) (fun c8 => ?_)
  · skip
    refine lv_goto (tgt := 2515) hx hb (dd_of dL_law_30 7 rfl) (by decide) ?_
    exact kk x6 FM1 GM1 O1 H locs ls h6 hV hD hS (lv_sub hl [2, 3, 4, 5, 6] rfl)
  · skip
    have hO := kW_O hV
    have h9 : O1 0 = (if x6 = 0 then (0 : Int64) else 1) := by
      rcases hp with ⟨x, h1, _, h2⟩ | ⟨h1, h2, _⟩
      · rw [h2]; exact hval _ _ _ h1 h6
      · exfalso; rw [h2] at c8; rcases hcod with hq | hq <;> first | exact h1 hq | (rw [hq] at c8; exact absurd c8 (by decide))
    refine lv_aload_n hx hb (dd_of dL_law_29 35 rfl) rfl (lv_at hl 3 rfl) ?_
    refine lv_iconst (v := 0) hx hb (dd_of dL_law_29 36 rfl) (by decide) ?_
    refine va_lald hx hb hK hO 0 1 rfl rfl (vin_lit (by decide)) (dd_of dL_law_29 37 rfl) ?_
    refine lv_iload hx hb (dd_of dL_law_29 38 rfl) (lv_at hl 0 rfl) ?_
    refine jn_l (ls := ls) (v := (if x6 = 0 then (0 : Int64) else 1)) 1974 [.long (O1 0)] (fun z9 ez9 => ?_) (fun K9 => ?_)
    rotate_left
    · refine lv_if_eq (tgt := 1973) hx hb (dd_of dL_law_29 39 rfl) (by decide) (fun c9 => ?_) (fun c9 => ?_)
      · refine lv_lconst (v := 0) hx hb (dd_of dL_law_30 2 rfl) (by decide) ?_
        exact K9 _ (if_pos c9).symm
      · refine lv_lconst (v := 1) hx hb (dd_of dL_law_30 0 rfl) (by decide) ?_
        refine lv_goto (tgt := 1974) hx hb (dd_of dL_law_30 1 rfl) (by decide) ?_
        exact K9 _ (if_neg c9).symm
    subst ez9
    refine jl_eq (tgt := 1980) hx hb (dd_of dL_law_30 3 rfl) (dd_of dL_law_30 4 rfl) (by decide) (fun c10 => ?_) (fun c10 => absurd h9 c10)
    refine lv_goto (tgt := 2515) hx hb (dd_of dL_law_30 7 rfl) (by decide) ?_
    exact kk x6 FM1 GM1 O1 H locs ls h6 hV hD hS (lv_sub hl [2, 3, 4, 5, 6] rfl)
set_option maxHeartbeats 4000000 in
set_option maxRecDepth 100000 in
theorem cs_pump {p : Program} {l : Launch} {e : Env} {s : State} {m : MethodId} {args : Array Value} {below : List Frame} {meth : Method} {c : Code} {H : Heap} {locs : List Loc} {cells slots : Nat} {Q : State → Prop} {ls : Array Slot} {c0 : Cond} {D : va_G} {yy : Nat → ClassId} {Z : Nat → Prop} (hl9 : l.stackTraces = false) (oa h0 an sa L : Nat) (i : Int32) (xs : Nat → Int32) (O : Nat → Int64) (A B B2 : Nat → Nat) (F : jF) (G : jG) (F2 : jF) (G2 : jG) (M FM : jF) (GM : jG) (a1 : Int32) (hi1 : vp_in (i + 1) L) (ha1 : xs (Int32.toNatClampNeg (i + 1)) = a1) (a2 : Int32) (hi2 : vp_in (i + 2) L) (ha2 : xs (Int32.toNatClampNeg (i + 2)) = a2) (hok : okX11_pump F G M a1 a2) (hcod : (gX11_pump F G M a1 a2).1 = 0 ∨ (gX11_pump F G M a1 a2).1 = 1 ∨ (gX11_pump F G M a1 a2).1 = 2) (hok12 : okX12_pump FM GM a1 a2) (hth : ∀ (x6 : Int32) (FM1 : jF) (GM1 : jG), (x6, (FM1, GM1)) = (gX12_pump FM GM a1 a2) → gX12_thrown FM1 GM1 = wk 1 2 9 (gX11_pump F G M a1 a2).1) (hval : ∀ x x6 st6, (gX11_pump F G M a1 a2) = (0, x) → (x6, st6) = (gX12_pump FM GM a1 a2) → Int32.toInt64 x = Int32.toInt64 x6) (hx : p.tables.exec = Jvm.exec) (hb : c.code = cL_law) (hml : c.maxLocals = 8) (hown : s.vm.findClass RL = some m.cls) (hts : ∀ w ∈ c0 :: wsL_law, w.before args s = true) (hV : va_P D vwCl (kW yy oa O (pV yy h0 an B B2 F G F2 G2 M) (mW yy A FM GM) sa L xs) H) (hK : va_K D vwCl (jT yy) s) (hT : jTP Z s) (hN : jNc s) (hD : va_D Z (kW yy oa O (pV yy h0 an B B2 F G F2 G2 M) (mW yy A FM GM) sa L xs)) (hS : va_S Z s.heap H locs) (hA : ∀ q, s.heap.size ≤ q → Z q) (hX0 : va_X sa L xs s s.heap) (hbl : sa < s.heap.size) (hbA : ¬ Z sa) (hl : lv_has ls 8 [(4, .int i), (3, .ref oa), (2, .ref (A 99)), (1, .ref h0), (0, .ref sa)]) (hf : cells + 9 ≤ rmLaw.cells ∧ slots + 64 ≤ rmLaw.slots)
    (kk : ∀ (x6 : Int32) (FM1 : jF) (GM1 : jG) (O1 : Nat → Int64) (H : Heap) (locs : List Loc) (ls : Array Slot), (x6, (FM1, GM1)) = (gX12_pump FM GM a1 a2) → va_P D vwCl (kW yy oa O1 (pV yy h0 an B B2 F G F2 G2 M) (mW yy A FM1 GM1) sa L xs) H → va_D Z (kW yy oa O1 (pV yy h0 an B B2 F G F2 G2 M) (mW yy A FM1 GM1) sa L xs) → va_S Z s.heap H locs → lv_has ls 8 [(4, .int i), (3, .ref oa), (2, .ref (A 99)), (1, .ref h0), (0, .ref sa)] → W p l e rmLaw s m args below meth c H locs (cells + 9) (slots + 64) Q (F0 m 2515 ls [])) : W p l e rmLaw s m args below meth c H locs cells slots Q (F0 m 1983 ls []) := by
  refine lv_aload_n hx hb (dd_of dL_law_30 8 rfl) rfl (lv_at hl 3 rfl) ?_
  refine lv_aload_n hx hb (dd_of dL_law_30 9 rfl) rfl (lv_at hl 4 rfl) ?_
  refine lv_iload hx hb (dd_of dL_law_30 10 rfl) (lv_at hl 0 rfl) ?_
  refine lv_iconst (v := 1) hx hb (dd_of dL_law_30 11 rfl) (by decide) ?_
  refine lv_iadd hx hb (dd_of dL_law_30 12 rfl) ?_
  refine va_sld hx hb hX0 hbl hbA hS hi1 (dd_of dL_law_30 13 rfl) ?_
  rw [ha1]
  refine lv_aload_n hx hb (dd_of dL_law_30 14 rfl) rfl (lv_at hl 4 rfl) ?_
  refine lv_iload hx hb (dd_of dL_law_30 15 rfl) (lv_at hl 0 rfl) ?_
  refine lv_iconst (v := 2) hx hb (dd_of dL_law_30 16 rfl) (by decide) ?_
  refine lv_iadd hx hb (dd_of dL_law_30 17 rfl) ?_
  refine va_sld hx hb hX0 hbl hbA hS hi2 (dd_of dL_law_30 18 rfl) ?_
  rw [ha2]
  refine lv_aload_n hx hb (dd_of dL_law_30 19 rfl) rfl (lv_at hl 1 rfl) ?_
  have hq := qL_pump l hl9 D yy oa h0 an O B B2 F G F2 G2 M (mW yy A FM GM ++ []) H.size a1 a2 hok hcod
  refine js_i (As := [.ref h0, .int a1, .int a2, .ref oa]) (rest := []) (D := D) (yy := yy) (w := (kW yy oa O (pV yy h0 an B B2 F G F2 G2 M) (mW yy A FM GM) sa L xs)) (w1 := fun u : Nat → Int64 => kW yy oa u (pV yy h0 an B B2 F G F2 G2 M) (mW yy A FM GM) sa L xs) ⟨hx, hb, hml, hown, hts⟩ hq (vx_cwSW 4 hts (jgW gw1048 gw1049 gw173 gw1050) rfl rfl rfl (by decide +kernel) ⟨Nat.le_of_ble_eq_true rfl, Nat.le_of_ble_eq_true rfl⟩) hV hK hT hN hD hS hA rfl hl.1 rfl (Nat.le_of_ble_eq_true rfl) (dd_of dL_law_30 20 rfl) hf (fun x5 u H locs hp hV hD hS => ?_)
  obtain ⟨O1, hO1⟩ : ∃ z, z = u := ⟨_, rfl⟩
  rw [← hO1] at hp hV hD
  have hp : ((∃ x, (gX11_pump F G M a1 a2) = (0, x) ∧ x5 = 0 ∧ O1 = vp_updL O 0 (Int32.toInt64 x)) ∨ ((gX11_pump F G M a1 a2).1 ≠ 0 ∧ x5 = wk 1 2 9 (gX11_pump F G M a1 a2).1 ∧ O1 = O)) := hp
  have hV : va_P D vwCl (kW yy oa O1 (pV yy h0 an B B2 F G F2 G2 M) (mW yy A FM GM) sa L xs) H := hV
  have hD : va_D Z (kW yy oa O1 (pV yy h0 an B B2 F G F2 G2 M) (mW yy A FM GM) sa L xs) := hD
  have hk5 : x5 = wk 1 2 9 (gX11_pump F G M a1 a2).1 := by
    rcases hp with ⟨x, h1, h2, _⟩ | ⟨_, h2, _⟩
    · rw [h2, h1]; rfl
    · exact h2
  refine lv_istore (lv' := [(5, .int x5), (4, .int i), (3, .ref oa), (2, .ref (A 99)), (1, .ref h0), (0, .ref sa)]) hx hb (dd_of dL_law_30 21 rfl) hl (by decide) rfl (fun ls hl => ?_)
  refine lv_aload_n hx hb (dd_of dL_law_30 22 rfl) rfl (lv_at hl 3 rfl) ?_
  refine lv_aload_n hx hb (dd_of dL_law_30 23 rfl) rfl (lv_at hl 5 rfl) ?_
  refine lv_iload hx hb (dd_of dL_law_30 24 rfl) (lv_at hl 1 rfl) ?_
  refine lv_iconst (v := 1) hx hb (dd_of dL_law_30 25 rfl) (by decide) ?_
  refine lv_iadd hx hb (dd_of dL_law_30 26 rfl) ?_
  refine va_sld hx hb hX0 hbl hbA hS hi1 (dd_of dL_law_30 27 rfl) ?_
  rw [ha1]
  refine lv_aload_n hx hb (dd_of dL_law_30 28 rfl) rfl (lv_at hl 5 rfl) ?_
  refine lv_iload hx hb (dd_of dL_law_30 29 rfl) (lv_at hl 1 rfl) ?_
  refine lv_iconst (v := 2) hx hb (dd_of dL_law_30 30 rfl) (by decide) ?_
  refine lv_iadd hx hb (dd_of dL_law_30 31 rfl) ?_
  refine va_sld hx hb hX0 hbl hbA hS hi2 (dd_of dL_law_30 32 rfl) ?_
  rw [ha2]
  refine jt_i (As := [.int a1, .int a2]) (rest := []) (D := D) (yy := yy) (oa := oa) (O := O1) (P := (pV yy h0 an B B2 F G F2 G2 M)) (M := mW yy A FM GM) (w1 := fun u : jS => mW yy A u.1 u.2) ⟨hx, hb, hml, hown, hts⟩ (qX12_pump l D yy A FM GM H.size a1 a2 hok12) (cwV 2 hts (jgV gw1058 gw1059 gw1060 gw5 gw1061) rfl rfl rfl (by decide +kernel) ⟨Nat.le_of_ble_eq_true rfl, Nat.le_of_ble_eq_true rfl⟩) hV hK hD hS hA (va_recv hK (kW_M hV) (ci := 12) (q0 := 0) rfl rfl) rfl hl.1 rfl (Nat.le_of_ble_eq_true rfl) (dd_of dL_law_30 33 rfl) hf (fun x6 u H locs h6 hV hD hS => ?_)
  obtain ⟨FM1, GM1⟩ := u
  have h6 : (x6, (FM1, GM1)) = (gX12_pump FM GM a1 a2) := h6
  have hV : va_P D vwCl (kW yy oa O1 (pV yy h0 an B B2 F G F2 G2 M) (mW yy A FM1 GM1) sa L xs) H := hV
  have hD : va_D Z (kW yy oa O1 (pV yy h0 an B B2 F G F2 G2 M) (mW yy A FM1 GM1) sa L xs) := hD
  refine lv_istore (lv' := [(6, .int x6), (5, .int x5), (4, .int i), (3, .ref oa), (2, .ref (A 99)), (1, .ref h0), (0, .ref sa)]) hx hb (dd_of dL_law_30 34 rfl) hl (by decide) rfl (fun ls hl => ?_)
  refine lv_aload_n hx hb (dd_of dL_law_30 35 rfl) rfl (lv_at hl 4 rfl) ?_
  refine jc_i (As := []) (rest := []) (w := mW yy A FM1 GM1) (D := D) (yy := yy) ⟨hx, hb, hml, hown, hts⟩ (qX12_thrown l D yy A FM1 GM1) (cwV 0 hts (jgV gw594 gw595 gw596 gw5 gw597) rfl rfl rfl (by decide +kernel) ⟨Nat.le_of_ble_eq_true rfl, Nat.le_of_ble_eq_true rfl⟩) (kW_M hV) hK (va_recv hK (kW_M hV) (ci := 12) (q0 := 0) rfl rfl) rfl hl.1 rfl (Nat.le_of_ble_eq_true rfl) (dd_of dL_law_30 36 rfl) hf (fun x7 e7 => ?_)
  refine lv_iload hx hb (dd_of dL_law_30 37 rfl) (lv_at hl 1 rfl) ?_
  refine lv_icmp_eq (tgt := 2031) hx hb (dd_of dL_law_30 38 rfl) (by decide) (fun c7 => ?_) (fun c7 => absurd (e7.trans ((hth _ _ _ h6).trans hk5.symm)) c7)
  refine lv_iload hx hb (dd_of dL_law_31 1 rfl) (lv_at hl 1 rfl) ?_
  refine lv_if_ne (tgt := 2048) hx hb (dd_of dL_law_31 2 rfl) (by decide) (fun c8 => ?_) (fun c8 => ?_)
  · skip
    refine lv_goto (tgt := 2515) hx hb (dd_of dL_law_31 12 rfl) (by decide) ?_
    exact kk x6 FM1 GM1 O1 H locs ls h6 hV hD hS (lv_sub hl [2, 3, 4, 5, 6] rfl)
  · skip
    have hO := kW_O hV
    have h9 : O1 0 = Int32.toInt64 x6 := by
      rcases hp with ⟨x, h1, _, h2⟩ | ⟨h1, h2, _⟩
      · rw [h2]; exact hval _ _ _ h1 h6
      · exfalso; rw [h2] at c8; rcases hcod with hq | hq | hq <;> first | exact h1 hq | (rw [hq] at c8; exact absurd c8 (by decide))
    refine lv_aload_n hx hb (dd_of dL_law_31 3 rfl) rfl (lv_at hl 3 rfl) ?_
    refine lv_iconst (v := 0) hx hb (dd_of dL_law_31 4 rfl) (by decide) ?_
    refine va_lald hx hb hK hO 0 1 rfl rfl (vin_lit (by decide)) (dd_of dL_law_31 5 rfl) ?_
    refine lv_iload hx hb (dd_of dL_law_31 6 rfl) (lv_at hl 0 rfl) ?_
    refine lv_i2l (v := Int32.toInt64 x6) hx hb (dd_of dL_law_31 7 rfl) rfl ?_
    refine jl_eq (tgt := 2048) hx hb (dd_of dL_law_31 8 rfl) (dd_of dL_law_31 9 rfl) (by decide) (fun c10 => ?_) (fun c10 => absurd h9 c10)
    refine lv_goto (tgt := 2515) hx hb (dd_of dL_law_31 12 rfl) (by decide) ?_
    exact kk x6 FM1 GM1 O1 H locs ls h6 hV hD hS (lv_sub hl [2, 3, 4, 5, 6] rfl)
set_option maxHeartbeats 4000000 in
set_option maxRecDepth 100000 in
theorem cs_dyke {p : Program} {l : Launch} {e : Env} {s : State} {m : MethodId} {args : Array Value} {below : List Frame} {meth : Method} {c : Code} {H : Heap} {locs : List Loc} {cells slots : Nat} {Q : State → Prop} {ls : Array Slot} {c0 : Cond} {D : va_G} {yy : Nat → ClassId} {Z : Nat → Prop} (hl9 : l.stackTraces = false) (oa h0 an sa L : Nat) (i : Int32) (xs : Nat → Int32) (O : Nat → Int64) (A B B2 : Nat → Nat) (F : jF) (G : jG) (F2 : jF) (G2 : jG) (M FM : jF) (GM : jG) (a1 : Int32) (hi1 : vp_in (i + 1) L) (ha1 : xs (Int32.toNatClampNeg (i + 1)) = a1) (a2 : Int32) (hi2 : vp_in (i + 2) L) (ha2 : xs (Int32.toNatClampNeg (i + 2)) = a2) (hok : okX11_dyke F G M a1 a2) (hcod : (gX11_dyke F G M a1 a2).1 = 0 ∨ (gX11_dyke F G M a1 a2).1 = 1 ∨ (gX11_dyke F G M a1 a2).1 = 2) (hok12 : okX12_dyke FM GM a1 a2) (hth : ∀ (x6 : Int32) (FM1 : jF) (GM1 : jG), (x6, (FM1, GM1)) = (gX12_dyke FM GM a1 a2) → gX12_thrown FM1 GM1 = wk 1 2 9 (gX11_dyke F G M a1 a2).1) (hval : ∀ x x6 st6, (gX11_dyke F G M a1 a2) = (0, x) → (x6, st6) = (gX12_dyke FM GM a1 a2) → Int32.toInt64 x = Int32.toInt64 x6) (hx : p.tables.exec = Jvm.exec) (hb : c.code = cL_law) (hml : c.maxLocals = 8) (hown : s.vm.findClass RL = some m.cls) (hts : ∀ w ∈ c0 :: wsL_law, w.before args s = true) (hV : va_P D vwCl (kW yy oa O (pV yy h0 an B B2 F G F2 G2 M) (mW yy A FM GM) sa L xs) H) (hK : va_K D vwCl (jT yy) s) (hT : jTP Z s) (hN : jNc s) (hD : va_D Z (kW yy oa O (pV yy h0 an B B2 F G F2 G2 M) (mW yy A FM GM) sa L xs)) (hS : va_S Z s.heap H locs) (hA : ∀ q, s.heap.size ≤ q → Z q) (hX0 : va_X sa L xs s s.heap) (hbl : sa < s.heap.size) (hbA : ¬ Z sa) (hl : lv_has ls 8 [(4, .int i), (3, .ref oa), (2, .ref (A 99)), (1, .ref h0), (0, .ref sa)]) (hf : cells + 9 ≤ rmLaw.cells ∧ slots + 64 ≤ rmLaw.slots)
    (kk : ∀ (x6 : Int32) (FM1 : jF) (GM1 : jG) (O1 : Nat → Int64) (H : Heap) (locs : List Loc) (ls : Array Slot), (x6, (FM1, GM1)) = (gX12_dyke FM GM a1 a2) → va_P D vwCl (kW yy oa O1 (pV yy h0 an B B2 F G F2 G2 M) (mW yy A FM1 GM1) sa L xs) H → va_D Z (kW yy oa O1 (pV yy h0 an B B2 F G F2 G2 M) (mW yy A FM1 GM1) sa L xs) → va_S Z s.heap H locs → lv_has ls 8 [(4, .int i), (3, .ref oa), (2, .ref (A 99)), (1, .ref h0), (0, .ref sa)] → W p l e rmLaw s m args below meth c H locs (cells + 9) (slots + 64) Q (F0 m 2515 ls [])) : W p l e rmLaw s m args below meth c H locs cells slots Q (F0 m 2051 ls []) := by
  refine lv_aload_n hx hb (dd_of dL_law_31 13 rfl) rfl (lv_at hl 3 rfl) ?_
  refine lv_aload_n hx hb (dd_of dL_law_31 14 rfl) rfl (lv_at hl 4 rfl) ?_
  refine lv_iload hx hb (dd_of dL_law_31 15 rfl) (lv_at hl 0 rfl) ?_
  refine lv_iconst (v := 1) hx hb (dd_of dL_law_31 16 rfl) (by decide) ?_
  refine lv_iadd hx hb (dd_of dL_law_31 17 rfl) ?_
  refine va_sld hx hb hX0 hbl hbA hS hi1 (dd_of dL_law_31 18 rfl) ?_
  rw [ha1]
  refine lv_aload_n hx hb (dd_of dL_law_31 19 rfl) rfl (lv_at hl 4 rfl) ?_
  refine lv_iload hx hb (dd_of dL_law_31 20 rfl) (lv_at hl 0 rfl) ?_
  refine lv_iconst (v := 2) hx hb (dd_of dL_law_31 21 rfl) (by decide) ?_
  refine lv_iadd hx hb (dd_of dL_law_31 22 rfl) ?_
  refine va_sld hx hb hX0 hbl hbA hS hi2 (dd_of dL_law_31 23 rfl) ?_
  rw [ha2]
  refine lv_aload_n hx hb (dd_of dL_law_31 24 rfl) rfl (lv_at hl 1 rfl) ?_
  have hq := qL_dyke l hl9 D yy oa h0 an O B B2 F G F2 G2 M (mW yy A FM GM ++ []) H.size a1 a2 hok hcod
  refine js_i (As := [.ref h0, .int a1, .int a2, .ref oa]) (rest := []) (D := D) (yy := yy) (w := (kW yy oa O (pV yy h0 an B B2 F G F2 G2 M) (mW yy A FM GM) sa L xs)) (w1 := fun u : Nat → Int64 => kW yy oa u (pV yy h0 an B B2 F G F2 G2 M) (mW yy A FM GM) sa L xs) ⟨hx, hb, hml, hown, hts⟩ hq (vx_cwSW 4 hts (jgW gw1062 gw1063 gw173 gw1064) rfl rfl rfl (by decide +kernel) ⟨Nat.le_of_ble_eq_true rfl, Nat.le_of_ble_eq_true rfl⟩) hV hK hT hN hD hS hA rfl hl.1 rfl (Nat.le_of_ble_eq_true rfl) (dd_of dL_law_31 25 rfl) hf (fun x5 u H locs hp hV hD hS => ?_)
  obtain ⟨O1, hO1⟩ : ∃ z, z = u := ⟨_, rfl⟩
  rw [← hO1] at hp hV hD
  have hp : ((∃ x, (gX11_dyke F G M a1 a2) = (0, x) ∧ x5 = 0 ∧ O1 = vp_updL O 0 (Int32.toInt64 x)) ∨ ((gX11_dyke F G M a1 a2).1 ≠ 0 ∧ x5 = wk 1 2 9 (gX11_dyke F G M a1 a2).1 ∧ O1 = O)) := hp
  have hV : va_P D vwCl (kW yy oa O1 (pV yy h0 an B B2 F G F2 G2 M) (mW yy A FM GM) sa L xs) H := hV
  have hD : va_D Z (kW yy oa O1 (pV yy h0 an B B2 F G F2 G2 M) (mW yy A FM GM) sa L xs) := hD
  have hk5 : x5 = wk 1 2 9 (gX11_dyke F G M a1 a2).1 := by
    rcases hp with ⟨x, h1, h2, _⟩ | ⟨_, h2, _⟩
    · rw [h2, h1]; rfl
    · exact h2
  refine lv_istore (lv' := [(5, .int x5), (4, .int i), (3, .ref oa), (2, .ref (A 99)), (1, .ref h0), (0, .ref sa)]) hx hb (dd_of dL_law_31 26 rfl) hl (by decide) rfl (fun ls hl => ?_)
  refine lv_aload_n hx hb (dd_of dL_law_31 27 rfl) rfl (lv_at hl 3 rfl) ?_
  refine lv_aload_n hx hb (dd_of dL_law_31 28 rfl) rfl (lv_at hl 5 rfl) ?_
  refine lv_iload hx hb (dd_of dL_law_31 29 rfl) (lv_at hl 1 rfl) ?_
  refine lv_iconst (v := 1) hx hb (dd_of dL_law_31 30 rfl) (by decide) ?_
  refine lv_iadd hx hb (dd_of dL_law_31 31 rfl) ?_
  refine va_sld hx hb hX0 hbl hbA hS hi1 (dd_of dL_law_31 32 rfl) ?_
  rw [ha1]
  refine lv_aload_n hx hb (dd_of dL_law_31 33 rfl) rfl (lv_at hl 5 rfl) ?_
  refine lv_iload hx hb (dd_of dL_law_31 34 rfl) (lv_at hl 1 rfl) ?_
  refine lv_iconst (v := 2) hx hb (dd_of dL_law_31 35 rfl) (by decide) ?_
  refine lv_iadd hx hb (dd_of dL_law_31 36 rfl) ?_
  refine va_sld hx hb hX0 hbl hbA hS hi2 (dd_of dL_law_31 37 rfl) ?_
  rw [ha2]
  refine jt_i (As := [.int a1, .int a2]) (rest := []) (D := D) (yy := yy) (oa := oa) (O := O1) (P := (pV yy h0 an B B2 F G F2 G2 M)) (M := mW yy A FM GM) (w1 := fun u : jS => mW yy A u.1 u.2) ⟨hx, hb, hml, hown, hts⟩ (qX12_dyke l D yy A FM GM H.size a1 a2 hok12) (cwV 2 hts (jgV gw1072 gw1073 gw1074 gw5 gw1075) rfl rfl rfl (by decide +kernel) ⟨Nat.le_of_ble_eq_true rfl, Nat.le_of_ble_eq_true rfl⟩) hV hK hD hS hA (va_recv hK (kW_M hV) (ci := 12) (q0 := 0) rfl rfl) rfl hl.1 rfl (Nat.le_of_ble_eq_true rfl) (dd_of dL_law_31 38 rfl) hf (fun x6 u H locs h6 hV hD hS => ?_)
  obtain ⟨FM1, GM1⟩ := u
  have h6 : (x6, (FM1, GM1)) = (gX12_dyke FM GM a1 a2) := h6
  have hV : va_P D vwCl (kW yy oa O1 (pV yy h0 an B B2 F G F2 G2 M) (mW yy A FM1 GM1) sa L xs) H := hV
  have hD : va_D Z (kW yy oa O1 (pV yy h0 an B B2 F G F2 G2 M) (mW yy A FM1 GM1) sa L xs) := hD
  refine lv_istore (lv' := [(6, .int x6), (5, .int x5), (4, .int i), (3, .ref oa), (2, .ref (A 99)), (1, .ref h0), (0, .ref sa)]) hx hb (dd_of dL_law_31 39 rfl) hl (by decide) rfl (fun ls hl => ?_)
  refine lv_aload_n hx hb (dd_of dL_law_32 0 rfl) rfl (lv_at hl 4 rfl) ?_
  refine jc_i (As := []) (rest := []) (w := mW yy A FM1 GM1) (D := D) (yy := yy) ⟨hx, hb, hml, hown, hts⟩ (qX12_thrown l D yy A FM1 GM1) (cwV 0 hts (jgV gw594 gw595 gw596 gw5 gw597) rfl rfl rfl (by decide +kernel) ⟨Nat.le_of_ble_eq_true rfl, Nat.le_of_ble_eq_true rfl⟩) (kW_M hV) hK (va_recv hK (kW_M hV) (ci := 12) (q0 := 0) rfl rfl) rfl hl.1 rfl (Nat.le_of_ble_eq_true rfl) (dd_of dL_law_32 1 rfl) hf (fun x7 e7 => ?_)
  refine lv_iload hx hb (dd_of dL_law_32 2 rfl) (lv_at hl 1 rfl) ?_
  refine lv_icmp_eq (tgt := 2099) hx hb (dd_of dL_law_32 3 rfl) (by decide) (fun c7 => ?_) (fun c7 => absurd (e7.trans ((hth _ _ _ h6).trans hk5.symm)) c7)
  refine lv_iload hx hb (dd_of dL_law_32 6 rfl) (lv_at hl 1 rfl) ?_
  refine lv_if_ne (tgt := 2116) hx hb (dd_of dL_law_32 7 rfl) (by decide) (fun c8 => ?_) (fun c8 => ?_)
  · skip
    refine lv_goto (tgt := 2515) hx hb (dd_of dL_law_32 17 rfl) (by decide) ?_
    exact kk x6 FM1 GM1 O1 H locs ls h6 hV hD hS (lv_sub hl [2, 3, 4, 5, 6] rfl)
  · skip
    have hO := kW_O hV
    have h9 : O1 0 = Int32.toInt64 x6 := by
      rcases hp with ⟨x, h1, _, h2⟩ | ⟨h1, h2, _⟩
      · rw [h2]; exact hval _ _ _ h1 h6
      · exfalso; rw [h2] at c8; rcases hcod with hq | hq | hq <;> first | exact h1 hq | (rw [hq] at c8; exact absurd c8 (by decide))
    refine lv_aload_n hx hb (dd_of dL_law_32 8 rfl) rfl (lv_at hl 3 rfl) ?_
    refine lv_iconst (v := 0) hx hb (dd_of dL_law_32 9 rfl) (by decide) ?_
    refine va_lald hx hb hK hO 0 1 rfl rfl (vin_lit (by decide)) (dd_of dL_law_32 10 rfl) ?_
    refine lv_iload hx hb (dd_of dL_law_32 11 rfl) (lv_at hl 0 rfl) ?_
    refine lv_i2l (v := Int32.toInt64 x6) hx hb (dd_of dL_law_32 12 rfl) rfl ?_
    refine jl_eq (tgt := 2116) hx hb (dd_of dL_law_32 13 rfl) (dd_of dL_law_32 14 rfl) (by decide) (fun c10 => ?_) (fun c10 => absurd h9 c10)
    refine lv_goto (tgt := 2515) hx hb (dd_of dL_law_32 17 rfl) (by decide) ?_
    exact kk x6 FM1 GM1 O1 H locs ls h6 hV hD hS (lv_sub hl [2, 3, 4, 5, 6] rfl)
set_option maxHeartbeats 4000000 in
set_option maxRecDepth 100000 in
theorem cs_crew {p : Program} {l : Launch} {e : Env} {s : State} {m : MethodId} {args : Array Value} {below : List Frame} {meth : Method} {c : Code} {H : Heap} {locs : List Loc} {cells slots : Nat} {Q : State → Prop} {ls : Array Slot} {c0 : Cond} {D : va_G} {yy : Nat → ClassId} {Z : Nat → Prop} (hl9 : l.stackTraces = false) (oa h0 an sa L : Nat) (i : Int32) (xs : Nat → Int32) (O : Nat → Int64) (A B B2 : Nat → Nat) (F : jF) (G : jG) (F2 : jF) (G2 : jG) (M FM : jF) (GM : jG) (a1 : Int32) (hi1 : vp_in (i + 1) L) (ha1 : xs (Int32.toNatClampNeg (i + 1)) = a1) (a2 : Int32) (hi2 : vp_in (i + 2) L) (ha2 : xs (Int32.toNatClampNeg (i + 2)) = a2) (hok : okX11_crew F G M a1 a2) (hcod : (gX11_crew F G M a1 a2).1 = 0 ∨ (gX11_crew F G M a1 a2).1 = 1 ∨ (gX11_crew F G M a1 a2).1 = 2) (hok12 : okX12_crew FM GM a1 a2) (hth : ∀ (x6 : Int32) (FM1 : jF) (GM1 : jG), (x6, (FM1, GM1)) = (gX12_crew FM GM a1 a2) → gX12_thrown FM1 GM1 = wk 1 2 9 (gX11_crew F G M a1 a2).1) (hval : ∀ x x6 st6, (gX11_crew F G M a1 a2) = (0, x) → (x6, st6) = (gX12_crew FM GM a1 a2) → Int32.toInt64 x = Int32.toInt64 x6) (hx : p.tables.exec = Jvm.exec) (hb : c.code = cL_law) (hml : c.maxLocals = 8) (hown : s.vm.findClass RL = some m.cls) (hts : ∀ w ∈ c0 :: wsL_law, w.before args s = true) (hV : va_P D vwCl (kW yy oa O (pV yy h0 an B B2 F G F2 G2 M) (mW yy A FM GM) sa L xs) H) (hK : va_K D vwCl (jT yy) s) (hT : jTP Z s) (hN : jNc s) (hD : va_D Z (kW yy oa O (pV yy h0 an B B2 F G F2 G2 M) (mW yy A FM GM) sa L xs)) (hS : va_S Z s.heap H locs) (hA : ∀ q, s.heap.size ≤ q → Z q) (hX0 : va_X sa L xs s s.heap) (hbl : sa < s.heap.size) (hbA : ¬ Z sa) (hl : lv_has ls 8 [(4, .int i), (3, .ref oa), (2, .ref (A 99)), (1, .ref h0), (0, .ref sa)]) (hf : cells + 9 ≤ rmLaw.cells ∧ slots + 64 ≤ rmLaw.slots)
    (kk : ∀ (x6 : Int32) (FM1 : jF) (GM1 : jG) (O1 : Nat → Int64) (H : Heap) (locs : List Loc) (ls : Array Slot), (x6, (FM1, GM1)) = (gX12_crew FM GM a1 a2) → va_P D vwCl (kW yy oa O1 (pV yy h0 an B B2 F G F2 G2 M) (mW yy A FM1 GM1) sa L xs) H → va_D Z (kW yy oa O1 (pV yy h0 an B B2 F G F2 G2 M) (mW yy A FM1 GM1) sa L xs) → va_S Z s.heap H locs → lv_has ls 8 [(4, .int i), (3, .ref oa), (2, .ref (A 99)), (1, .ref h0), (0, .ref sa)] → W p l e rmLaw s m args below meth c H locs (cells + 9) (slots + 64) Q (F0 m 2515 ls [])) : W p l e rmLaw s m args below meth c H locs cells slots Q (F0 m 2119 ls []) := by
  refine lv_aload_n hx hb (dd_of dL_law_32 18 rfl) rfl (lv_at hl 3 rfl) ?_
  refine lv_aload_n hx hb (dd_of dL_law_32 19 rfl) rfl (lv_at hl 4 rfl) ?_
  refine lv_iload hx hb (dd_of dL_law_32 20 rfl) (lv_at hl 0 rfl) ?_
  refine lv_iconst (v := 1) hx hb (dd_of dL_law_32 21 rfl) (by decide) ?_
  refine lv_iadd hx hb (dd_of dL_law_32 22 rfl) ?_
  refine va_sld hx hb hX0 hbl hbA hS hi1 (dd_of dL_law_32 23 rfl) ?_
  rw [ha1]
  refine lv_aload_n hx hb (dd_of dL_law_32 24 rfl) rfl (lv_at hl 4 rfl) ?_
  refine lv_iload hx hb (dd_of dL_law_32 25 rfl) (lv_at hl 0 rfl) ?_
  refine lv_iconst (v := 2) hx hb (dd_of dL_law_32 26 rfl) (by decide) ?_
  refine lv_iadd hx hb (dd_of dL_law_32 27 rfl) ?_
  refine va_sld hx hb hX0 hbl hbA hS hi2 (dd_of dL_law_32 28 rfl) ?_
  rw [ha2]
  refine lv_aload_n hx hb (dd_of dL_law_32 29 rfl) rfl (lv_at hl 1 rfl) ?_
  have hq := qL_crew l hl9 D yy oa h0 an O B B2 F G F2 G2 M (mW yy A FM GM ++ []) H.size a1 a2 hok hcod
  refine js_i (As := [.ref h0, .int a1, .int a2, .ref oa]) (rest := []) (D := D) (yy := yy) (w := (kW yy oa O (pV yy h0 an B B2 F G F2 G2 M) (mW yy A FM GM) sa L xs)) (w1 := fun u : Nat → Int64 => kW yy oa u (pV yy h0 an B B2 F G F2 G2 M) (mW yy A FM GM) sa L xs) ⟨hx, hb, hml, hown, hts⟩ hq (vx_cwSW 4 hts (jgW gw1076 gw1077 gw173 gw1078) rfl rfl rfl (by decide +kernel) ⟨Nat.le_of_ble_eq_true rfl, Nat.le_of_ble_eq_true rfl⟩) hV hK hT hN hD hS hA rfl hl.1 rfl (Nat.le_of_ble_eq_true rfl) (dd_of dL_law_32 30 rfl) hf (fun x5 u H locs hp hV hD hS => ?_)
  obtain ⟨O1, hO1⟩ : ∃ z, z = u := ⟨_, rfl⟩
  rw [← hO1] at hp hV hD
  have hp : ((∃ x, (gX11_crew F G M a1 a2) = (0, x) ∧ x5 = 0 ∧ O1 = vp_updL O 0 (Int32.toInt64 x)) ∨ ((gX11_crew F G M a1 a2).1 ≠ 0 ∧ x5 = wk 1 2 9 (gX11_crew F G M a1 a2).1 ∧ O1 = O)) := hp
  have hV : va_P D vwCl (kW yy oa O1 (pV yy h0 an B B2 F G F2 G2 M) (mW yy A FM GM) sa L xs) H := hV
  have hD : va_D Z (kW yy oa O1 (pV yy h0 an B B2 F G F2 G2 M) (mW yy A FM GM) sa L xs) := hD
  have hk5 : x5 = wk 1 2 9 (gX11_crew F G M a1 a2).1 := by
    rcases hp with ⟨x, h1, h2, _⟩ | ⟨_, h2, _⟩
    · rw [h2, h1]; rfl
    · exact h2
  refine lv_istore (lv' := [(5, .int x5), (4, .int i), (3, .ref oa), (2, .ref (A 99)), (1, .ref h0), (0, .ref sa)]) hx hb (dd_of dL_law_32 31 rfl) hl (by decide) rfl (fun ls hl => ?_)
  refine lv_aload_n hx hb (dd_of dL_law_32 32 rfl) rfl (lv_at hl 3 rfl) ?_
  refine lv_aload_n hx hb (dd_of dL_law_32 33 rfl) rfl (lv_at hl 5 rfl) ?_
  refine lv_iload hx hb (dd_of dL_law_32 34 rfl) (lv_at hl 1 rfl) ?_
  refine lv_iconst (v := 1) hx hb (dd_of dL_law_32 35 rfl) (by decide) ?_
  refine lv_iadd hx hb (dd_of dL_law_32 36 rfl) ?_
  refine va_sld hx hb hX0 hbl hbA hS hi1 (dd_of dL_law_32 37 rfl) ?_
  rw [ha1]
  refine lv_aload_n hx hb (dd_of dL_law_32 38 rfl) rfl (lv_at hl 5 rfl) ?_
  refine lv_iload hx hb (dd_of dL_law_32 39 rfl) (lv_at hl 1 rfl) ?_
  refine lv_iconst (v := 2) hx hb (dd_of dL_law_33 0 rfl) (by decide) ?_
  refine lv_iadd hx hb (dd_of dL_law_33 1 rfl) ?_
  refine va_sld hx hb hX0 hbl hbA hS hi2 (dd_of dL_law_33 2 rfl) ?_
  rw [ha2]
  refine jt_i (As := [.int a1, .int a2]) (rest := []) (D := D) (yy := yy) (oa := oa) (O := O1) (P := (pV yy h0 an B B2 F G F2 G2 M)) (M := mW yy A FM GM) (w1 := fun u : jS => mW yy A u.1 u.2) ⟨hx, hb, hml, hown, hts⟩ (qX12_crew l D yy A FM GM H.size a1 a2 hok12) (cwV 2 hts (jgV gw1086 gw1087 gw1088 gw5 gw1089) rfl rfl rfl (by decide +kernel) ⟨Nat.le_of_ble_eq_true rfl, Nat.le_of_ble_eq_true rfl⟩) hV hK hD hS hA (va_recv hK (kW_M hV) (ci := 12) (q0 := 0) rfl rfl) rfl hl.1 rfl (Nat.le_of_ble_eq_true rfl) (dd_of dL_law_33 3 rfl) hf (fun x6 u H locs h6 hV hD hS => ?_)
  obtain ⟨FM1, GM1⟩ := u
  have h6 : (x6, (FM1, GM1)) = (gX12_crew FM GM a1 a2) := h6
  have hV : va_P D vwCl (kW yy oa O1 (pV yy h0 an B B2 F G F2 G2 M) (mW yy A FM1 GM1) sa L xs) H := hV
  have hD : va_D Z (kW yy oa O1 (pV yy h0 an B B2 F G F2 G2 M) (mW yy A FM1 GM1) sa L xs) := hD
  refine lv_istore (lv' := [(6, .int x6), (5, .int x5), (4, .int i), (3, .ref oa), (2, .ref (A 99)), (1, .ref h0), (0, .ref sa)]) hx hb (dd_of dL_law_33 4 rfl) hl (by decide) rfl (fun ls hl => ?_)
  refine lv_aload_n hx hb (dd_of dL_law_33 5 rfl) rfl (lv_at hl 4 rfl) ?_
  refine jc_i (As := []) (rest := []) (w := mW yy A FM1 GM1) (D := D) (yy := yy) ⟨hx, hb, hml, hown, hts⟩ (qX12_thrown l D yy A FM1 GM1) (cwV 0 hts (jgV gw594 gw595 gw596 gw5 gw597) rfl rfl rfl (by decide +kernel) ⟨Nat.le_of_ble_eq_true rfl, Nat.le_of_ble_eq_true rfl⟩) (kW_M hV) hK (va_recv hK (kW_M hV) (ci := 12) (q0 := 0) rfl rfl) rfl hl.1 rfl (Nat.le_of_ble_eq_true rfl) (dd_of dL_law_33 6 rfl) hf (fun x7 e7 => ?_)
  refine lv_iload hx hb (dd_of dL_law_33 7 rfl) (lv_at hl 1 rfl) ?_
  refine lv_icmp_eq (tgt := 2167) hx hb (dd_of dL_law_33 8 rfl) (by decide) (fun c7 => ?_) (fun c7 => absurd (e7.trans ((hth _ _ _ h6).trans hk5.symm)) c7)
  refine lv_iload hx hb (dd_of dL_law_33 11 rfl) (lv_at hl 1 rfl) ?_
  refine lv_if_ne (tgt := 2184) hx hb (dd_of dL_law_33 12 rfl) (by decide) (fun c8 => ?_) (fun c8 => ?_)
  · skip
    refine lv_goto (tgt := 2515) hx hb (dd_of dL_law_33 22 rfl) (by decide) ?_
    exact kk x6 FM1 GM1 O1 H locs ls h6 hV hD hS (lv_sub hl [2, 3, 4, 5, 6] rfl)
  · skip
    have hO := kW_O hV
    have h9 : O1 0 = Int32.toInt64 x6 := by
      rcases hp with ⟨x, h1, _, h2⟩ | ⟨h1, h2, _⟩
      · rw [h2]; exact hval _ _ _ h1 h6
      · exfalso; rw [h2] at c8; rcases hcod with hq | hq | hq <;> first | exact h1 hq | (rw [hq] at c8; exact absurd c8 (by decide))
    refine lv_aload_n hx hb (dd_of dL_law_33 13 rfl) rfl (lv_at hl 3 rfl) ?_
    refine lv_iconst (v := 0) hx hb (dd_of dL_law_33 14 rfl) (by decide) ?_
    refine va_lald hx hb hK hO 0 1 rfl rfl (vin_lit (by decide)) (dd_of dL_law_33 15 rfl) ?_
    refine lv_iload hx hb (dd_of dL_law_33 16 rfl) (lv_at hl 0 rfl) ?_
    refine lv_i2l (v := Int32.toInt64 x6) hx hb (dd_of dL_law_33 17 rfl) rfl ?_
    refine jl_eq (tgt := 2184) hx hb (dd_of dL_law_33 18 rfl) (dd_of dL_law_33 19 rfl) (by decide) (fun c10 => ?_) (fun c10 => absurd h9 c10)
    refine lv_goto (tgt := 2515) hx hb (dd_of dL_law_33 22 rfl) (by decide) ?_
    exact kk x6 FM1 GM1 O1 H locs ls h6 hV hD hS (lv_sub hl [2, 3, 4, 5, 6] rfl)
set_option maxHeartbeats 4000000 in
set_option maxRecDepth 100000 in
theorem cs_sea {p : Program} {l : Launch} {e : Env} {s : State} {m : MethodId} {args : Array Value} {below : List Frame} {meth : Method} {c : Code} {H : Heap} {locs : List Loc} {cells slots : Nat} {Q : State → Prop} {ls : Array Slot} {c0 : Cond} {D : va_G} {yy : Nat → ClassId} {Z : Nat → Prop} (hl9 : l.stackTraces = false) (oa h0 an sa L : Nat) (i : Int32) (xs : Nat → Int32) (O : Nat → Int64) (A B B2 : Nat → Nat) (F : jF) (G : jG) (F2 : jF) (G2 : jG) (M FM : jF) (GM : jG) (a1 : Int32) (hi1 : vp_in (i + 1) L) (ha1 : xs (Int32.toNatClampNeg (i + 1)) = a1) (hok : okX11_sea F G M a1) (hcod : (gX11_sea F G M a1).1 = 0 ∨ (gX11_sea F G M a1).1 = 2) (hok12 : okX12_sea FM GM a1) (hth : ∀ (x6 : Int64) (FM1 : jF) (GM1 : jG), (x6, (FM1, GM1)) = (gX12_sea FM GM a1) → gX12_thrown FM1 GM1 = wk 2 9 9 (gX11_sea F G M a1).1) (hval : ∀ x x6 st6, (gX11_sea F G M a1) = (0, x) → (x6, st6) = (gX12_sea FM GM a1) → x = x6) (hx : p.tables.exec = Jvm.exec) (hb : c.code = cL_law) (hml : c.maxLocals = 8) (hown : s.vm.findClass RL = some m.cls) (hts : ∀ w ∈ c0 :: wsL_law, w.before args s = true) (hV : va_P D vwCl (kW yy oa O (pV yy h0 an B B2 F G F2 G2 M) (mW yy A FM GM) sa L xs) H) (hK : va_K D vwCl (jT yy) s) (hT : jTP Z s) (hN : jNc s) (hD : va_D Z (kW yy oa O (pV yy h0 an B B2 F G F2 G2 M) (mW yy A FM GM) sa L xs)) (hS : va_S Z s.heap H locs) (hA : ∀ q, s.heap.size ≤ q → Z q) (hX0 : va_X sa L xs s s.heap) (hbl : sa < s.heap.size) (hbA : ¬ Z sa) (hl : lv_has ls 8 [(4, .int i), (3, .ref oa), (2, .ref (A 99)), (1, .ref h0), (0, .ref sa)]) (hf : cells + 9 ≤ rmLaw.cells ∧ slots + 64 ≤ rmLaw.slots)
    (kk : ∀ (x6 : Int64) (FM1 : jF) (GM1 : jG) (O1 : Nat → Int64) (H : Heap) (locs : List Loc) (ls : Array Slot), (x6, (FM1, GM1)) = (gX12_sea FM GM a1) → va_P D vwCl (kW yy oa O1 (pV yy h0 an B B2 F G F2 G2 M) (mW yy A FM1 GM1) sa L xs) H → va_D Z (kW yy oa O1 (pV yy h0 an B B2 F G F2 G2 M) (mW yy A FM1 GM1) sa L xs) → va_S Z s.heap H locs → lv_has ls 8 [(4, .int i), (3, .ref oa), (2, .ref (A 99)), (1, .ref h0), (0, .ref sa)] → W p l e rmLaw s m args below meth c H locs (cells + 9) (slots + 64) Q (F0 m 2515 ls [])) : W p l e rmLaw s m args below meth c H locs cells slots Q (F0 m 2187 ls []) := by
  refine lv_aload_n hx hb (dd_of dL_law_33 23 rfl) rfl (lv_at hl 3 rfl) ?_
  refine lv_aload_n hx hb (dd_of dL_law_33 24 rfl) rfl (lv_at hl 4 rfl) ?_
  refine lv_iload hx hb (dd_of dL_law_33 25 rfl) (lv_at hl 0 rfl) ?_
  refine lv_iconst (v := 1) hx hb (dd_of dL_law_33 26 rfl) (by decide) ?_
  refine lv_iadd hx hb (dd_of dL_law_33 27 rfl) ?_
  refine va_sld hx hb hX0 hbl hbA hS hi1 (dd_of dL_law_33 28 rfl) ?_
  rw [ha1]
  refine lv_aload_n hx hb (dd_of dL_law_33 29 rfl) rfl (lv_at hl 1 rfl) ?_
  have hq := qL_sea l hl9 D yy oa h0 an O B B2 F G F2 G2 M (mW yy A FM GM ++ []) H.size a1 hok hcod
  refine js_i (As := [.ref h0, .int a1, .ref oa]) (rest := []) (D := D) (yy := yy) (w := (kW yy oa O (pV yy h0 an B B2 F G F2 G2 M) (mW yy A FM GM) sa L xs)) (w1 := fun u : Nat → Int64 => kW yy oa u (pV yy h0 an B B2 F G F2 G2 M) (mW yy A FM GM) sa L xs) ⟨hx, hb, hml, hown, hts⟩ hq (vx_cwSW 3 hts (jgW gw1090 gw1091 gw173 gw1092) rfl rfl rfl (by decide +kernel) ⟨Nat.le_of_ble_eq_true rfl, Nat.le_of_ble_eq_true rfl⟩) hV hK hT hN hD hS hA rfl hl.1 rfl (Nat.le_of_ble_eq_true rfl) (dd_of dL_law_33 30 rfl) hf (fun x5 u H locs hp hV hD hS => ?_)
  obtain ⟨O1, hO1⟩ : ∃ z, z = u := ⟨_, rfl⟩
  rw [← hO1] at hp hV hD
  have hp : ((∃ x, (gX11_sea F G M a1) = (0, x) ∧ x5 = 0 ∧ O1 = vp_updL O 0 (x)) ∨ ((gX11_sea F G M a1).1 ≠ 0 ∧ x5 = wk 2 9 9 (gX11_sea F G M a1).1 ∧ O1 = O)) := hp
  have hV : va_P D vwCl (kW yy oa O1 (pV yy h0 an B B2 F G F2 G2 M) (mW yy A FM GM) sa L xs) H := hV
  have hD : va_D Z (kW yy oa O1 (pV yy h0 an B B2 F G F2 G2 M) (mW yy A FM GM) sa L xs) := hD
  have hk5 : x5 = wk 2 9 9 (gX11_sea F G M a1).1 := by
    rcases hp with ⟨x, h1, h2, _⟩ | ⟨_, h2, _⟩
    · rw [h2, h1]; rfl
    · exact h2
  refine lv_istore (lv' := [(5, .int x5), (4, .int i), (3, .ref oa), (2, .ref (A 99)), (1, .ref h0), (0, .ref sa)]) hx hb (dd_of dL_law_33 31 rfl) hl (by decide) rfl (fun ls hl => ?_)
  refine lv_aload_n hx hb (dd_of dL_law_33 32 rfl) rfl (lv_at hl 3 rfl) ?_
  refine lv_aload_n hx hb (dd_of dL_law_33 33 rfl) rfl (lv_at hl 5 rfl) ?_
  refine lv_iload hx hb (dd_of dL_law_33 34 rfl) (lv_at hl 1 rfl) ?_
  refine lv_iconst (v := 1) hx hb (dd_of dL_law_33 35 rfl) (by decide) ?_
  refine lv_iadd hx hb (dd_of dL_law_33 36 rfl) ?_
  refine va_sld hx hb hX0 hbl hbA hS hi1 (dd_of dL_law_33 37 rfl) ?_
  rw [ha1]
  refine jt_l (As := [.int a1]) (rest := []) (D := D) (yy := yy) (oa := oa) (O := O1) (P := (pV yy h0 an B B2 F G F2 G2 M)) (M := mW yy A FM GM) (w1 := fun u : jS => mW yy A u.1 u.2) ⟨hx, hb, hml, hown, hts⟩ (qX12_sea l D yy A FM GM H.size a1 hok12) (cwV 1 hts (jgV gw1098 gw1099 gw1100 gw5 gw1101) rfl rfl rfl (by decide +kernel) ⟨Nat.le_of_ble_eq_true rfl, Nat.le_of_ble_eq_true rfl⟩) hV hK hD hS hA (va_recv hK (kW_M hV) (ci := 12) (q0 := 0) rfl rfl) rfl hl.1 rfl (Nat.le_of_ble_eq_true rfl) (dd_of dL_law_33 38 rfl) hf (fun x6 u H locs h6 hV hD hS => ?_)
  obtain ⟨FM1, GM1⟩ := u
  have h6 : (x6, (FM1, GM1)) = (gX12_sea FM GM a1) := h6
  have hV : va_P D vwCl (kW yy oa O1 (pV yy h0 an B B2 F G F2 G2 M) (mW yy A FM1 GM1) sa L xs) H := hV
  have hD : va_D Z (kW yy oa O1 (pV yy h0 an B B2 F G F2 G2 M) (mW yy A FM1 GM1) sa L xs) := hD
  refine lv_lstore (lv' := [(6, .long x6), (5, .int x5), (4, .int i), (3, .ref oa), (2, .ref (A 99)), (1, .ref h0), (0, .ref sa)]) hx hb (dd_of dL_law_33 39 rfl) hl (by decide) rfl (fun ls hl => ?_)
  refine lv_aload_n hx hb (dd_of dL_law_34 0 rfl) rfl (lv_at hl 4 rfl) ?_
  refine jc_i (As := []) (rest := []) (w := mW yy A FM1 GM1) (D := D) (yy := yy) ⟨hx, hb, hml, hown, hts⟩ (qX12_thrown l D yy A FM1 GM1) (cwV 0 hts (jgV gw594 gw595 gw596 gw5 gw597) rfl rfl rfl (by decide +kernel) ⟨Nat.le_of_ble_eq_true rfl, Nat.le_of_ble_eq_true rfl⟩) (kW_M hV) hK (va_recv hK (kW_M hV) (ci := 12) (q0 := 0) rfl rfl) rfl hl.1 rfl (Nat.le_of_ble_eq_true rfl) (dd_of dL_law_34 1 rfl) hf (fun x7 e7 => ?_)
  refine lv_iload hx hb (dd_of dL_law_34 2 rfl) (lv_at hl 1 rfl) ?_
  refine lv_icmp_eq (tgt := 2223) hx hb (dd_of dL_law_34 3 rfl) (by decide) (fun c7 => ?_) (fun c7 => absurd (e7.trans ((hth _ _ _ h6).trans hk5.symm)) c7)
  refine lv_iload hx hb (dd_of dL_law_34 6 rfl) (lv_at hl 1 rfl) ?_
  refine lv_if_ne (tgt := 2239) hx hb (dd_of dL_law_34 7 rfl) (by decide) (fun c8 => ?_) (fun c8 => ?_)
  · skip
    refine lv_goto (tgt := 2515) hx hb (dd_of dL_law_34 16 rfl) (by decide) ?_
    exact kk x6 FM1 GM1 O1 H locs ls h6 hV hD hS (lv_sub hl [2, 3, 4, 5, 6] rfl)
  · skip
    have hO := kW_O hV
    have h9 : O1 0 = x6 := by
      rcases hp with ⟨x, h1, _, h2⟩ | ⟨h1, h2, _⟩
      · rw [h2]; exact hval _ _ _ h1 h6
      · exfalso; rw [h2] at c8; rcases hcod with hq | hq <;> first | exact h1 hq | (rw [hq] at c8; exact absurd c8 (by decide))
    refine lv_aload_n hx hb (dd_of dL_law_34 8 rfl) rfl (lv_at hl 3 rfl) ?_
    refine lv_iconst (v := 0) hx hb (dd_of dL_law_34 9 rfl) (by decide) ?_
    refine va_lald hx hb hK hO 0 1 rfl rfl (vin_lit (by decide)) (dd_of dL_law_34 10 rfl) ?_
    refine lv_lload hx hb (dd_of dL_law_34 11 rfl) (lv_at hl 0 rfl) ?_
    refine jl_eq (tgt := 2239) hx hb (dd_of dL_law_34 12 rfl) (dd_of dL_law_34 13 rfl) (by decide) (fun c10 => ?_) (fun c10 => absurd h9 c10)
    refine lv_goto (tgt := 2515) hx hb (dd_of dL_law_34 16 rfl) (by decide) ?_
    exact kk x6 FM1 GM1 O1 H locs ls h6 hV hD hS (lv_sub hl [2, 3, 4, 5, 6] rfl)
set_option maxHeartbeats 4000000 in
set_option maxRecDepth 100000 in
theorem cs_forecast {p : Program} {l : Launch} {e : Env} {s : State} {m : MethodId} {args : Array Value} {below : List Frame} {meth : Method} {c : Code} {H : Heap} {locs : List Loc} {cells slots : Nat} {Q : State → Prop} {ls : Array Slot} {c0 : Cond} {D : va_G} {yy : Nat → ClassId} {Z : Nat → Prop} (hl9 : l.stackTraces = false) (oa h0 an sa L : Nat) (i : Int32) (xs : Nat → Int32) (O : Nat → Int64) (A B B2 : Nat → Nat) (F : jF) (G : jG) (F2 : jF) (G2 : jG) (M FM : jF) (GM : jG) (a1 : Int32) (hi1 : vp_in (i + 1) L) (ha1 : xs (Int32.toNatClampNeg (i + 1)) = a1) (hok : okX11_forecast F G M a1) (hcod : (gX11_forecast F G M a1).1 = 0 ∨ (gX11_forecast F G M a1).1 = 2) (hok12 : okX12_forecast FM GM a1) (hth : ∀ (x6 : Int64) (FM1 : jF) (GM1 : jG), (x6, (FM1, GM1)) = (gX12_forecast FM GM a1) → gX12_thrown FM1 GM1 = wk 2 9 9 (gX11_forecast F G M a1).1) (hval : ∀ x x6 st6, (gX11_forecast F G M a1) = (0, x) → (x6, st6) = (gX12_forecast FM GM a1) → x = x6) (hx : p.tables.exec = Jvm.exec) (hb : c.code = cL_law) (hml : c.maxLocals = 8) (hown : s.vm.findClass RL = some m.cls) (hts : ∀ w ∈ c0 :: wsL_law, w.before args s = true) (hV : va_P D vwCl (kW yy oa O (pV yy h0 an B B2 F G F2 G2 M) (mW yy A FM GM) sa L xs) H) (hK : va_K D vwCl (jT yy) s) (hT : jTP Z s) (hN : jNc s) (hD : va_D Z (kW yy oa O (pV yy h0 an B B2 F G F2 G2 M) (mW yy A FM GM) sa L xs)) (hS : va_S Z s.heap H locs) (hA : ∀ q, s.heap.size ≤ q → Z q) (hX0 : va_X sa L xs s s.heap) (hbl : sa < s.heap.size) (hbA : ¬ Z sa) (hl : lv_has ls 8 [(4, .int i), (3, .ref oa), (2, .ref (A 99)), (1, .ref h0), (0, .ref sa)]) (hf : cells + 9 ≤ rmLaw.cells ∧ slots + 64 ≤ rmLaw.slots)
    (kk : ∀ (x6 : Int64) (FM1 : jF) (GM1 : jG) (O1 : Nat → Int64) (H : Heap) (locs : List Loc) (ls : Array Slot), (x6, (FM1, GM1)) = (gX12_forecast FM GM a1) → va_P D vwCl (kW yy oa O1 (pV yy h0 an B B2 F G F2 G2 M) (mW yy A FM1 GM1) sa L xs) H → va_D Z (kW yy oa O1 (pV yy h0 an B B2 F G F2 G2 M) (mW yy A FM1 GM1) sa L xs) → va_S Z s.heap H locs → lv_has ls 8 [(4, .int i), (3, .ref oa), (2, .ref (A 99)), (1, .ref h0), (0, .ref sa)] → W p l e rmLaw s m args below meth c H locs (cells + 9) (slots + 64) Q (F0 m 2515 ls [])) : W p l e rmLaw s m args below meth c H locs cells slots Q (F0 m 2242 ls []) := by
  refine lv_aload_n hx hb (dd_of dL_law_34 17 rfl) rfl (lv_at hl 3 rfl) ?_
  refine lv_aload_n hx hb (dd_of dL_law_34 18 rfl) rfl (lv_at hl 4 rfl) ?_
  refine lv_iload hx hb (dd_of dL_law_34 19 rfl) (lv_at hl 0 rfl) ?_
  refine lv_iconst (v := 1) hx hb (dd_of dL_law_34 20 rfl) (by decide) ?_
  refine lv_iadd hx hb (dd_of dL_law_34 21 rfl) ?_
  refine va_sld hx hb hX0 hbl hbA hS hi1 (dd_of dL_law_34 22 rfl) ?_
  rw [ha1]
  refine lv_aload_n hx hb (dd_of dL_law_34 23 rfl) rfl (lv_at hl 1 rfl) ?_
  have hq := qL_forecast l hl9 D yy oa h0 an O B B2 F G F2 G2 M (mW yy A FM GM ++ []) H.size a1 hok hcod
  refine js_i (As := [.ref h0, .int a1, .ref oa]) (rest := []) (D := D) (yy := yy) (w := (kW yy oa O (pV yy h0 an B B2 F G F2 G2 M) (mW yy A FM GM) sa L xs)) (w1 := fun u : Nat → Int64 => kW yy oa u (pV yy h0 an B B2 F G F2 G2 M) (mW yy A FM GM) sa L xs) ⟨hx, hb, hml, hown, hts⟩ hq (vx_cwSW 3 hts (jgW gw1102 gw1103 gw173 gw1104) rfl rfl rfl (by decide +kernel) ⟨Nat.le_of_ble_eq_true rfl, Nat.le_of_ble_eq_true rfl⟩) hV hK hT hN hD hS hA rfl hl.1 rfl (Nat.le_of_ble_eq_true rfl) (dd_of dL_law_34 24 rfl) hf (fun x5 u H locs hp hV hD hS => ?_)
  obtain ⟨O1, hO1⟩ : ∃ z, z = u := ⟨_, rfl⟩
  rw [← hO1] at hp hV hD
  have hp : ((∃ x, (gX11_forecast F G M a1) = (0, x) ∧ x5 = 0 ∧ O1 = vp_updL O 0 (x)) ∨ ((gX11_forecast F G M a1).1 ≠ 0 ∧ x5 = wk 2 9 9 (gX11_forecast F G M a1).1 ∧ O1 = O)) := hp
  have hV : va_P D vwCl (kW yy oa O1 (pV yy h0 an B B2 F G F2 G2 M) (mW yy A FM GM) sa L xs) H := hV
  have hD : va_D Z (kW yy oa O1 (pV yy h0 an B B2 F G F2 G2 M) (mW yy A FM GM) sa L xs) := hD
  have hk5 : x5 = wk 2 9 9 (gX11_forecast F G M a1).1 := by
    rcases hp with ⟨x, h1, h2, _⟩ | ⟨_, h2, _⟩
    · rw [h2, h1]; rfl
    · exact h2
  refine lv_istore (lv' := [(5, .int x5), (4, .int i), (3, .ref oa), (2, .ref (A 99)), (1, .ref h0), (0, .ref sa)]) hx hb (dd_of dL_law_34 25 rfl) hl (by decide) rfl (fun ls hl => ?_)
  refine lv_aload_n hx hb (dd_of dL_law_34 26 rfl) rfl (lv_at hl 3 rfl) ?_
  refine lv_aload_n hx hb (dd_of dL_law_34 27 rfl) rfl (lv_at hl 5 rfl) ?_
  refine lv_iload hx hb (dd_of dL_law_34 28 rfl) (lv_at hl 1 rfl) ?_
  refine lv_iconst (v := 1) hx hb (dd_of dL_law_34 29 rfl) (by decide) ?_
  refine lv_iadd hx hb (dd_of dL_law_34 30 rfl) ?_
  refine va_sld hx hb hX0 hbl hbA hS hi1 (dd_of dL_law_34 31 rfl) ?_
  rw [ha1]
  refine jt_l (As := [.int a1]) (rest := []) (D := D) (yy := yy) (oa := oa) (O := O1) (P := (pV yy h0 an B B2 F G F2 G2 M)) (M := mW yy A FM GM) (w1 := fun u : jS => mW yy A u.1 u.2) ⟨hx, hb, hml, hown, hts⟩ (qX12_forecast l D yy A FM GM H.size a1 hok12) (cwV 1 hts (jgV gw1116 gw1117 gw1118 gw5 gw1119) rfl rfl rfl (by decide +kernel) ⟨Nat.le_of_ble_eq_true rfl, Nat.le_of_ble_eq_true rfl⟩) hV hK hD hS hA (va_recv hK (kW_M hV) (ci := 12) (q0 := 0) rfl rfl) rfl hl.1 rfl (Nat.le_of_ble_eq_true rfl) (dd_of dL_law_34 32 rfl) hf (fun x6 u H locs h6 hV hD hS => ?_)
  obtain ⟨FM1, GM1⟩ := u
  have h6 : (x6, (FM1, GM1)) = (gX12_forecast FM GM a1) := h6
  have hV : va_P D vwCl (kW yy oa O1 (pV yy h0 an B B2 F G F2 G2 M) (mW yy A FM1 GM1) sa L xs) H := hV
  have hD : va_D Z (kW yy oa O1 (pV yy h0 an B B2 F G F2 G2 M) (mW yy A FM1 GM1) sa L xs) := hD
  refine lv_lstore (lv' := [(6, .long x6), (5, .int x5), (4, .int i), (3, .ref oa), (2, .ref (A 99)), (1, .ref h0), (0, .ref sa)]) hx hb (dd_of dL_law_34 33 rfl) hl (by decide) rfl (fun ls hl => ?_)
  refine lv_aload_n hx hb (dd_of dL_law_34 34 rfl) rfl (lv_at hl 4 rfl) ?_
  refine jc_i (As := []) (rest := []) (w := mW yy A FM1 GM1) (D := D) (yy := yy) ⟨hx, hb, hml, hown, hts⟩ (qX12_thrown l D yy A FM1 GM1) (cwV 0 hts (jgV gw594 gw595 gw596 gw5 gw597) rfl rfl rfl (by decide +kernel) ⟨Nat.le_of_ble_eq_true rfl, Nat.le_of_ble_eq_true rfl⟩) (kW_M hV) hK (va_recv hK (kW_M hV) (ci := 12) (q0 := 0) rfl rfl) rfl hl.1 rfl (Nat.le_of_ble_eq_true rfl) (dd_of dL_law_34 35 rfl) hf (fun x7 e7 => ?_)
  refine lv_iload hx hb (dd_of dL_law_34 36 rfl) (lv_at hl 1 rfl) ?_
  refine lv_icmp_eq (tgt := 2278) hx hb (dd_of dL_law_34 37 rfl) (by decide) (fun c7 => ?_) (fun c7 => absurd (e7.trans ((hth _ _ _ h6).trans hk5.symm)) c7)
  refine lv_iload hx hb (dd_of dL_law_35 0 rfl) (lv_at hl 1 rfl) ?_
  refine lv_if_ne (tgt := 2294) hx hb (dd_of dL_law_35 1 rfl) (by decide) (fun c8 => ?_) (fun c8 => ?_)
  · skip
    refine lv_goto (tgt := 2515) hx hb (dd_of dL_law_35 10 rfl) (by decide) ?_
    exact kk x6 FM1 GM1 O1 H locs ls h6 hV hD hS (lv_sub hl [2, 3, 4, 5, 6] rfl)
  · skip
    have hO := kW_O hV
    have h9 : O1 0 = x6 := by
      rcases hp with ⟨x, h1, _, h2⟩ | ⟨h1, h2, _⟩
      · rw [h2]; exact hval _ _ _ h1 h6
      · exfalso; rw [h2] at c8; rcases hcod with hq | hq <;> first | exact h1 hq | (rw [hq] at c8; exact absurd c8 (by decide))
    refine lv_aload_n hx hb (dd_of dL_law_35 2 rfl) rfl (lv_at hl 3 rfl) ?_
    refine lv_iconst (v := 0) hx hb (dd_of dL_law_35 3 rfl) (by decide) ?_
    refine va_lald hx hb hK hO 0 1 rfl rfl (vin_lit (by decide)) (dd_of dL_law_35 4 rfl) ?_
    refine lv_lload hx hb (dd_of dL_law_35 5 rfl) (lv_at hl 0 rfl) ?_
    refine jl_eq (tgt := 2294) hx hb (dd_of dL_law_35 6 rfl) (dd_of dL_law_35 7 rfl) (by decide) (fun c10 => ?_) (fun c10 => absurd h9 c10)
    refine lv_goto (tgt := 2515) hx hb (dd_of dL_law_35 10 rfl) (by decide) ?_
    exact kk x6 FM1 GM1 O1 H locs ls h6 hV hD hS (lv_sub hl [2, 3, 4, 5, 6] rfl)
set_option maxHeartbeats 4000000 in
set_option maxRecDepth 100000 in
theorem cs_record {p : Program} {l : Launch} {e : Env} {s : State} {m : MethodId} {args : Array Value} {below : List Frame} {meth : Method} {c : Code} {H : Heap} {locs : List Loc} {cells slots : Nat} {Q : State → Prop} {ls : Array Slot} {c0 : Cond} {D : va_G} {yy : Nat → ClassId} {Z : Nat → Prop} (hl9 : l.stackTraces = false) (oa h0 an sa L : Nat) (i : Int32) (xs : Nat → Int32) (O : Nat → Int64) (A B B2 : Nat → Nat) (F : jF) (G : jG) (F2 : jF) (G2 : jG) (M FM : jF) (GM : jG) (a1 : Int32) (hi1 : vp_in (i + 1) L) (ha1 : xs (Int32.toNatClampNeg (i + 1)) = a1) (hok : okX11_record F G M a1) (hcod : (gX11_record F G M a1).1 = 0 ∨ (gX11_record F G M a1).1 = 1) (hok12 : okX12_record FM GM a1) (hth : ∀ (x6 : Int64) (FM1 : jF) (GM1 : jG), (x6, (FM1, GM1)) = (gX12_record FM GM a1) → gX12_thrown FM1 GM1 = wk 1 9 9 (gX11_record F G M a1).1) (hval : ∀ x x6 st6, (gX11_record F G M a1) = (0, x) → (x6, st6) = (gX12_record FM GM a1) → x = x6) (hx : p.tables.exec = Jvm.exec) (hb : c.code = cL_law) (hml : c.maxLocals = 8) (hown : s.vm.findClass RL = some m.cls) (hts : ∀ w ∈ c0 :: wsL_law, w.before args s = true) (hV : va_P D vwCl (kW yy oa O (pV yy h0 an B B2 F G F2 G2 M) (mW yy A FM GM) sa L xs) H) (hK : va_K D vwCl (jT yy) s) (hT : jTP Z s) (hN : jNc s) (hD : va_D Z (kW yy oa O (pV yy h0 an B B2 F G F2 G2 M) (mW yy A FM GM) sa L xs)) (hS : va_S Z s.heap H locs) (hA : ∀ q, s.heap.size ≤ q → Z q) (hX0 : va_X sa L xs s s.heap) (hbl : sa < s.heap.size) (hbA : ¬ Z sa) (hl : lv_has ls 8 [(4, .int i), (3, .ref oa), (2, .ref (A 99)), (1, .ref h0), (0, .ref sa)]) (hf : cells + 9 ≤ rmLaw.cells ∧ slots + 64 ≤ rmLaw.slots)
    (kk : ∀ (x6 : Int64) (FM1 : jF) (GM1 : jG) (O1 : Nat → Int64) (H : Heap) (locs : List Loc) (ls : Array Slot), (x6, (FM1, GM1)) = (gX12_record FM GM a1) → va_P D vwCl (kW yy oa O1 (pV yy h0 an B B2 F G F2 G2 M) (mW yy A FM1 GM1) sa L xs) H → va_D Z (kW yy oa O1 (pV yy h0 an B B2 F G F2 G2 M) (mW yy A FM1 GM1) sa L xs) → va_S Z s.heap H locs → lv_has ls 8 [(4, .int i), (3, .ref oa), (2, .ref (A 99)), (1, .ref h0), (0, .ref sa)] → W p l e rmLaw s m args below meth c H locs (cells + 9) (slots + 64) Q (F0 m 2515 ls [])) : W p l e rmLaw s m args below meth c H locs cells slots Q (F0 m 2297 ls []) := by
  refine lv_aload_n hx hb (dd_of dL_law_35 11 rfl) rfl (lv_at hl 3 rfl) ?_
  refine lv_aload_n hx hb (dd_of dL_law_35 12 rfl) rfl (lv_at hl 4 rfl) ?_
  refine lv_iload hx hb (dd_of dL_law_35 13 rfl) (lv_at hl 0 rfl) ?_
  refine lv_iconst (v := 1) hx hb (dd_of dL_law_35 14 rfl) (by decide) ?_
  refine lv_iadd hx hb (dd_of dL_law_35 15 rfl) ?_
  refine va_sld hx hb hX0 hbl hbA hS hi1 (dd_of dL_law_35 16 rfl) ?_
  rw [ha1]
  refine lv_aload_n hx hb (dd_of dL_law_35 17 rfl) rfl (lv_at hl 1 rfl) ?_
  have hq := qL_record l hl9 D yy oa h0 an O B B2 F G F2 G2 M (mW yy A FM GM ++ []) H.size a1 hok hcod
  refine js_i (As := [.ref h0, .int a1, .ref oa]) (rest := []) (D := D) (yy := yy) (w := (kW yy oa O (pV yy h0 an B B2 F G F2 G2 M) (mW yy A FM GM) sa L xs)) (w1 := fun u : Nat → Int64 => kW yy oa u (pV yy h0 an B B2 F G F2 G2 M) (mW yy A FM GM) sa L xs) ⟨hx, hb, hml, hown, hts⟩ hq (vx_cwSW 3 hts (jgW gw1121 gw1122 gw173 gw1123) rfl rfl rfl (by decide +kernel) ⟨Nat.le_of_ble_eq_true rfl, Nat.le_of_ble_eq_true rfl⟩) hV hK hT hN hD hS hA rfl hl.1 rfl (Nat.le_of_ble_eq_true rfl) (dd_of dL_law_35 18 rfl) hf (fun x5 u H locs hp hV hD hS => ?_)
  obtain ⟨O1, hO1⟩ : ∃ z, z = u := ⟨_, rfl⟩
  rw [← hO1] at hp hV hD
  have hp : ((∃ x, (gX11_record F G M a1) = (0, x) ∧ x5 = 0 ∧ O1 = vp_updL O 0 (x)) ∨ ((gX11_record F G M a1).1 ≠ 0 ∧ x5 = wk 1 9 9 (gX11_record F G M a1).1 ∧ O1 = O)) := hp
  have hV : va_P D vwCl (kW yy oa O1 (pV yy h0 an B B2 F G F2 G2 M) (mW yy A FM GM) sa L xs) H := hV
  have hD : va_D Z (kW yy oa O1 (pV yy h0 an B B2 F G F2 G2 M) (mW yy A FM GM) sa L xs) := hD
  have hk5 : x5 = wk 1 9 9 (gX11_record F G M a1).1 := by
    rcases hp with ⟨x, h1, h2, _⟩ | ⟨_, h2, _⟩
    · rw [h2, h1]; rfl
    · exact h2
  refine lv_istore (lv' := [(5, .int x5), (4, .int i), (3, .ref oa), (2, .ref (A 99)), (1, .ref h0), (0, .ref sa)]) hx hb (dd_of dL_law_35 19 rfl) hl (by decide) rfl (fun ls hl => ?_)
  refine lv_aload_n hx hb (dd_of dL_law_35 20 rfl) rfl (lv_at hl 3 rfl) ?_
  refine lv_aload_n hx hb (dd_of dL_law_35 21 rfl) rfl (lv_at hl 5 rfl) ?_
  refine lv_iload hx hb (dd_of dL_law_35 22 rfl) (lv_at hl 1 rfl) ?_
  refine lv_iconst (v := 1) hx hb (dd_of dL_law_35 23 rfl) (by decide) ?_
  refine lv_iadd hx hb (dd_of dL_law_35 24 rfl) ?_
  refine va_sld hx hb hX0 hbl hbA hS hi1 (dd_of dL_law_35 25 rfl) ?_
  rw [ha1]
  refine jt_l (As := [.int a1]) (rest := []) (D := D) (yy := yy) (oa := oa) (O := O1) (P := (pV yy h0 an B B2 F G F2 G2 M)) (M := mW yy A FM GM) (w1 := fun u : jS => mW yy A u.1 u.2) ⟨hx, hb, hml, hown, hts⟩ (qX12_record l D yy A FM GM H.size a1 hok12) (cwV 1 hts (jgV gw1132 gw1133 gw1134 gw5 gw1135) rfl rfl rfl (by decide +kernel) ⟨Nat.le_of_ble_eq_true rfl, Nat.le_of_ble_eq_true rfl⟩) hV hK hD hS hA (va_recv hK (kW_M hV) (ci := 12) (q0 := 0) rfl rfl) rfl hl.1 rfl (Nat.le_of_ble_eq_true rfl) (dd_of dL_law_35 26 rfl) hf (fun x6 u H locs h6 hV hD hS => ?_)
  obtain ⟨FM1, GM1⟩ := u
  have h6 : (x6, (FM1, GM1)) = (gX12_record FM GM a1) := h6
  have hV : va_P D vwCl (kW yy oa O1 (pV yy h0 an B B2 F G F2 G2 M) (mW yy A FM1 GM1) sa L xs) H := hV
  have hD : va_D Z (kW yy oa O1 (pV yy h0 an B B2 F G F2 G2 M) (mW yy A FM1 GM1) sa L xs) := hD
  refine lv_lstore (lv' := [(6, .long x6), (5, .int x5), (4, .int i), (3, .ref oa), (2, .ref (A 99)), (1, .ref h0), (0, .ref sa)]) hx hb (dd_of dL_law_35 27 rfl) hl (by decide) rfl (fun ls hl => ?_)
  refine lv_aload_n hx hb (dd_of dL_law_35 28 rfl) rfl (lv_at hl 4 rfl) ?_
  refine jc_i (As := []) (rest := []) (w := mW yy A FM1 GM1) (D := D) (yy := yy) ⟨hx, hb, hml, hown, hts⟩ (qX12_thrown l D yy A FM1 GM1) (cwV 0 hts (jgV gw594 gw595 gw596 gw5 gw597) rfl rfl rfl (by decide +kernel) ⟨Nat.le_of_ble_eq_true rfl, Nat.le_of_ble_eq_true rfl⟩) (kW_M hV) hK (va_recv hK (kW_M hV) (ci := 12) (q0 := 0) rfl rfl) rfl hl.1 rfl (Nat.le_of_ble_eq_true rfl) (dd_of dL_law_35 29 rfl) hf (fun x7 e7 => ?_)
  refine lv_iload hx hb (dd_of dL_law_35 30 rfl) (lv_at hl 1 rfl) ?_
  refine lv_icmp_eq (tgt := 2333) hx hb (dd_of dL_law_35 31 rfl) (by decide) (fun c7 => ?_) (fun c7 => absurd (e7.trans ((hth _ _ _ h6).trans hk5.symm)) c7)
  refine lv_iload hx hb (dd_of dL_law_35 34 rfl) (lv_at hl 1 rfl) ?_
  refine lv_if_ne (tgt := 2349) hx hb (dd_of dL_law_35 35 rfl) (by decide) (fun c8 => ?_) (fun c8 => ?_)
  · skip
    refine lv_goto (tgt := 2515) hx hb (dd_of dL_law_36 4 rfl) (by decide) ?_
    exact kk x6 FM1 GM1 O1 H locs ls h6 hV hD hS (lv_sub hl [2, 3, 4, 5, 6] rfl)
  · skip
    have hO := kW_O hV
    have h9 : O1 0 = x6 := by
      rcases hp with ⟨x, h1, _, h2⟩ | ⟨h1, h2, _⟩
      · rw [h2]; exact hval _ _ _ h1 h6
      · exfalso; rw [h2] at c8; rcases hcod with hq | hq <;> first | exact h1 hq | (rw [hq] at c8; exact absurd c8 (by decide))
    refine lv_aload_n hx hb (dd_of dL_law_35 36 rfl) rfl (lv_at hl 3 rfl) ?_
    refine lv_iconst (v := 0) hx hb (dd_of dL_law_35 37 rfl) (by decide) ?_
    refine va_lald hx hb hK hO 0 1 rfl rfl (vin_lit (by decide)) (dd_of dL_law_35 38 rfl) ?_
    refine lv_lload hx hb (dd_of dL_law_35 39 rfl) (lv_at hl 0 rfl) ?_
    refine jl_eq (tgt := 2349) hx hb (dd_of dL_law_36 0 rfl) (dd_of dL_law_36 1 rfl) (by decide) (fun c10 => ?_) (fun c10 => absurd h9 c10)
    refine lv_goto (tgt := 2515) hx hb (dd_of dL_law_36 4 rfl) (by decide) ?_
    exact kk x6 FM1 GM1 O1 H locs ls h6 hV hD hS (lv_sub hl [2, 3, 4, 5, 6] rfl)
set_option maxHeartbeats 4000000 in
set_option maxRecDepth 100000 in
theorem cs_nextHeight {p : Program} {l : Launch} {e : Env} {s : State} {m : MethodId} {args : Array Value} {below : List Frame} {meth : Method} {c : Code} {H : Heap} {locs : List Loc} {cells slots : Nat} {Q : State → Prop} {ls : Array Slot} {c0 : Cond} {D : va_G} {yy : Nat → ClassId} {Z : Nat → Prop} (hl9 : l.stackTraces = false) (oa h0 an sa L : Nat) (i : Int32) (xs : Nat → Int32) (O : Nat → Int64) (A B B2 : Nat → Nat) (F : jF) (G : jG) (F2 : jF) (G2 : jG) (M FM : jF) (GM : jG) (a1 : Int32) (hi1 : vp_in (i + 1) L) (ha1 : xs (Int32.toNatClampNeg (i + 1)) = a1) (a2 : Int32) (hi2 : vp_in (i + 2) L) (ha2 : xs (Int32.toNatClampNeg (i + 2)) = a2) (hok : okX11_nextHeight F G M a1 a2) (hcod : (gX11_nextHeight F G M a1 a2).1 = 0 ∨ (gX11_nextHeight F G M a1 a2).1 = 2 ∨ (gX11_nextHeight F G M a1 a2).1 = 3) (hok12 : okX12_nextHeight FM GM a1 a2) (hth : ∀ (x6 : Int64) (FM1 : jF) (GM1 : jG), (x6, (FM1, GM1)) = (gX12_nextHeight FM GM a1 a2) → gX12_thrown FM1 GM1 = wk 2 3 9 (gX11_nextHeight F G M a1 a2).1) (hval : ∀ x x6 st6, (gX11_nextHeight F G M a1 a2) = (0, x) → (x6, st6) = (gX12_nextHeight FM GM a1 a2) → x = x6) (hx : p.tables.exec = Jvm.exec) (hb : c.code = cL_law) (hml : c.maxLocals = 8) (hown : s.vm.findClass RL = some m.cls) (hts : ∀ w ∈ c0 :: wsL_law, w.before args s = true) (hV : va_P D vwCl (kW yy oa O (pV yy h0 an B B2 F G F2 G2 M) (mW yy A FM GM) sa L xs) H) (hK : va_K D vwCl (jT yy) s) (hT : jTP Z s) (hN : jNc s) (hD : va_D Z (kW yy oa O (pV yy h0 an B B2 F G F2 G2 M) (mW yy A FM GM) sa L xs)) (hS : va_S Z s.heap H locs) (hA : ∀ q, s.heap.size ≤ q → Z q) (hX0 : va_X sa L xs s s.heap) (hbl : sa < s.heap.size) (hbA : ¬ Z sa) (hl : lv_has ls 8 [(4, .int i), (3, .ref oa), (2, .ref (A 99)), (1, .ref h0), (0, .ref sa)]) (hf : cells + 9 ≤ rmLaw.cells ∧ slots + 64 ≤ rmLaw.slots)
    (kk : ∀ (x6 : Int64) (FM1 : jF) (GM1 : jG) (O1 : Nat → Int64) (H : Heap) (locs : List Loc) (ls : Array Slot), (x6, (FM1, GM1)) = (gX12_nextHeight FM GM a1 a2) → va_P D vwCl (kW yy oa O1 (pV yy h0 an B B2 F G F2 G2 M) (mW yy A FM1 GM1) sa L xs) H → va_D Z (kW yy oa O1 (pV yy h0 an B B2 F G F2 G2 M) (mW yy A FM1 GM1) sa L xs) → va_S Z s.heap H locs → lv_has ls 8 [(4, .int i), (3, .ref oa), (2, .ref (A 99)), (1, .ref h0), (0, .ref sa)] → W p l e rmLaw s m args below meth c H locs (cells + 9) (slots + 64) Q (F0 m 2515 ls [])) : W p l e rmLaw s m args below meth c H locs cells slots Q (F0 m 2352 ls []) := by
  refine lv_aload_n hx hb (dd_of dL_law_36 5 rfl) rfl (lv_at hl 3 rfl) ?_
  refine lv_aload_n hx hb (dd_of dL_law_36 6 rfl) rfl (lv_at hl 4 rfl) ?_
  refine lv_iload hx hb (dd_of dL_law_36 7 rfl) (lv_at hl 0 rfl) ?_
  refine lv_iconst (v := 1) hx hb (dd_of dL_law_36 8 rfl) (by decide) ?_
  refine lv_iadd hx hb (dd_of dL_law_36 9 rfl) ?_
  refine va_sld hx hb hX0 hbl hbA hS hi1 (dd_of dL_law_36 10 rfl) ?_
  rw [ha1]
  refine lv_aload_n hx hb (dd_of dL_law_36 11 rfl) rfl (lv_at hl 4 rfl) ?_
  refine lv_iload hx hb (dd_of dL_law_36 12 rfl) (lv_at hl 0 rfl) ?_
  refine lv_iconst (v := 2) hx hb (dd_of dL_law_36 13 rfl) (by decide) ?_
  refine lv_iadd hx hb (dd_of dL_law_36 14 rfl) ?_
  refine va_sld hx hb hX0 hbl hbA hS hi2 (dd_of dL_law_36 15 rfl) ?_
  rw [ha2]
  refine lv_aload_n hx hb (dd_of dL_law_36 16 rfl) rfl (lv_at hl 1 rfl) ?_
  have hq := qL_nextHeight l hl9 D yy oa h0 an O B B2 F G F2 G2 M (mW yy A FM GM ++ []) H.size a1 a2 hok hcod
  refine js_i (As := [.ref h0, .int a1, .int a2, .ref oa]) (rest := []) (D := D) (yy := yy) (w := (kW yy oa O (pV yy h0 an B B2 F G F2 G2 M) (mW yy A FM GM) sa L xs)) (w1 := fun u : Nat → Int64 => kW yy oa u (pV yy h0 an B B2 F G F2 G2 M) (mW yy A FM GM) sa L xs) ⟨hx, hb, hml, hown, hts⟩ hq (vx_cwSW 4 hts (jgW gw1136 gw1137 gw173 gw1138) rfl rfl rfl (by decide +kernel) ⟨Nat.le_of_ble_eq_true rfl, Nat.le_of_ble_eq_true rfl⟩) hV hK hT hN hD hS hA rfl hl.1 rfl (Nat.le_of_ble_eq_true rfl) (dd_of dL_law_36 17 rfl) hf (fun x5 u H locs hp hV hD hS => ?_)
  obtain ⟨O1, hO1⟩ : ∃ z, z = u := ⟨_, rfl⟩
  rw [← hO1] at hp hV hD
  have hp : ((∃ x, (gX11_nextHeight F G M a1 a2) = (0, x) ∧ x5 = 0 ∧ O1 = vp_updL O 0 (x)) ∨ ((gX11_nextHeight F G M a1 a2).1 ≠ 0 ∧ x5 = wk 2 3 9 (gX11_nextHeight F G M a1 a2).1 ∧ O1 = O)) := hp
  have hV : va_P D vwCl (kW yy oa O1 (pV yy h0 an B B2 F G F2 G2 M) (mW yy A FM GM) sa L xs) H := hV
  have hD : va_D Z (kW yy oa O1 (pV yy h0 an B B2 F G F2 G2 M) (mW yy A FM GM) sa L xs) := hD
  have hk5 : x5 = wk 2 3 9 (gX11_nextHeight F G M a1 a2).1 := by
    rcases hp with ⟨x, h1, h2, _⟩ | ⟨_, h2, _⟩
    · rw [h2, h1]; rfl
    · exact h2
  refine lv_istore (lv' := [(5, .int x5), (4, .int i), (3, .ref oa), (2, .ref (A 99)), (1, .ref h0), (0, .ref sa)]) hx hb (dd_of dL_law_36 18 rfl) hl (by decide) rfl (fun ls hl => ?_)
  refine lv_aload_n hx hb (dd_of dL_law_36 19 rfl) rfl (lv_at hl 3 rfl) ?_
  refine lv_aload_n hx hb (dd_of dL_law_36 20 rfl) rfl (lv_at hl 5 rfl) ?_
  refine lv_iload hx hb (dd_of dL_law_36 21 rfl) (lv_at hl 1 rfl) ?_
  refine lv_iconst (v := 1) hx hb (dd_of dL_law_36 22 rfl) (by decide) ?_
  refine lv_iadd hx hb (dd_of dL_law_36 23 rfl) ?_
  refine va_sld hx hb hX0 hbl hbA hS hi1 (dd_of dL_law_36 24 rfl) ?_
  rw [ha1]
  refine lv_aload_n hx hb (dd_of dL_law_36 25 rfl) rfl (lv_at hl 5 rfl) ?_
  refine lv_iload hx hb (dd_of dL_law_36 26 rfl) (lv_at hl 1 rfl) ?_
  refine lv_iconst (v := 2) hx hb (dd_of dL_law_36 27 rfl) (by decide) ?_
  refine lv_iadd hx hb (dd_of dL_law_36 28 rfl) ?_
  refine va_sld hx hb hX0 hbl hbA hS hi2 (dd_of dL_law_36 29 rfl) ?_
  rw [ha2]
  refine jt_l (As := [.int a1, .int a2]) (rest := []) (D := D) (yy := yy) (oa := oa) (O := O1) (P := (pV yy h0 an B B2 F G F2 G2 M)) (M := mW yy A FM GM) (w1 := fun u : jS => mW yy A u.1 u.2) ⟨hx, hb, hml, hown, hts⟩ (qX12_nextHeight l D yy A FM GM H.size a1 a2 hok12) (cwV 2 hts (jgV gw1159 gw1160 gw1161 gw5 gw1162) rfl rfl rfl (by decide +kernel) ⟨Nat.le_of_ble_eq_true rfl, Nat.le_of_ble_eq_true rfl⟩) hV hK hD hS hA (va_recv hK (kW_M hV) (ci := 12) (q0 := 0) rfl rfl) rfl hl.1 rfl (Nat.le_of_ble_eq_true rfl) (dd_of dL_law_36 30 rfl) hf (fun x6 u H locs h6 hV hD hS => ?_)
  obtain ⟨FM1, GM1⟩ := u
  have h6 : (x6, (FM1, GM1)) = (gX12_nextHeight FM GM a1 a2) := h6
  have hV : va_P D vwCl (kW yy oa O1 (pV yy h0 an B B2 F G F2 G2 M) (mW yy A FM1 GM1) sa L xs) H := hV
  have hD : va_D Z (kW yy oa O1 (pV yy h0 an B B2 F G F2 G2 M) (mW yy A FM1 GM1) sa L xs) := hD
  refine lv_lstore (lv' := [(6, .long x6), (5, .int x5), (4, .int i), (3, .ref oa), (2, .ref (A 99)), (1, .ref h0), (0, .ref sa)]) hx hb (dd_of dL_law_36 31 rfl) hl (by decide) rfl (fun ls hl => ?_)
  refine lv_aload_n hx hb (dd_of dL_law_36 32 rfl) rfl (lv_at hl 4 rfl) ?_
  refine jc_i (As := []) (rest := []) (w := mW yy A FM1 GM1) (D := D) (yy := yy) ⟨hx, hb, hml, hown, hts⟩ (qX12_thrown l D yy A FM1 GM1) (cwV 0 hts (jgV gw594 gw595 gw596 gw5 gw597) rfl rfl rfl (by decide +kernel) ⟨Nat.le_of_ble_eq_true rfl, Nat.le_of_ble_eq_true rfl⟩) (kW_M hV) hK (va_recv hK (kW_M hV) (ci := 12) (q0 := 0) rfl rfl) rfl hl.1 rfl (Nat.le_of_ble_eq_true rfl) (dd_of dL_law_36 33 rfl) hf (fun x7 e7 => ?_)
  refine lv_iload hx hb (dd_of dL_law_36 34 rfl) (lv_at hl 1 rfl) ?_
  refine lv_icmp_eq (tgt := 2400) hx hb (dd_of dL_law_36 35 rfl) (by decide) (fun c7 => ?_) (fun c7 => absurd (e7.trans ((hth _ _ _ h6).trans hk5.symm)) c7)
  refine lv_iload hx hb (dd_of dL_law_36 38 rfl) (lv_at hl 1 rfl) ?_
  refine lv_if_ne (tgt := 2416) hx hb (dd_of dL_law_36 39 rfl) (by decide) (fun c8 => ?_) (fun c8 => ?_)
  · skip
    refine lv_goto (tgt := 2515) hx hb (dd_of dL_law_37 8 rfl) (by decide) ?_
    exact kk x6 FM1 GM1 O1 H locs ls h6 hV hD hS (lv_sub hl [2, 3, 4, 5, 6] rfl)
  · skip
    have hO := kW_O hV
    have h9 : O1 0 = x6 := by
      rcases hp with ⟨x, h1, _, h2⟩ | ⟨h1, h2, _⟩
      · rw [h2]; exact hval _ _ _ h1 h6
      · exfalso; rw [h2] at c8; rcases hcod with hq | hq | hq <;> first | exact h1 hq | (rw [hq] at c8; exact absurd c8 (by decide))
    refine lv_aload_n hx hb (dd_of dL_law_37 0 rfl) rfl (lv_at hl 3 rfl) ?_
    refine lv_iconst (v := 0) hx hb (dd_of dL_law_37 1 rfl) (by decide) ?_
    refine va_lald hx hb hK hO 0 1 rfl rfl (vin_lit (by decide)) (dd_of dL_law_37 2 rfl) ?_
    refine lv_lload hx hb (dd_of dL_law_37 3 rfl) (lv_at hl 0 rfl) ?_
    refine jl_eq (tgt := 2416) hx hb (dd_of dL_law_37 4 rfl) (dd_of dL_law_37 5 rfl) (by decide) (fun c10 => ?_) (fun c10 => absurd h9 c10)
    refine lv_goto (tgt := 2515) hx hb (dd_of dL_law_37 8 rfl) (by decide) ?_
    exact kk x6 FM1 GM1 O1 H locs ls h6 hV hD hS (lv_sub hl [2, 3, 4, 5, 6] rfl)
set_option maxHeartbeats 4000000 in
set_option maxRecDepth 100000 in
theorem cs_share {p : Program} {l : Launch} {e : Env} {s : State} {m : MethodId} {args : Array Value} {below : List Frame} {meth : Method} {c : Code} {H : Heap} {locs : List Loc} {cells slots : Nat} {Q : State → Prop} {ls : Array Slot} {c0 : Cond} {D : va_G} {yy : Nat → ClassId} {Z : Nat → Prop} (hl9 : l.stackTraces = false) (oa h0 an sa L : Nat) (i : Int32) (xs : Nat → Int32) (O : Nat → Int64) (A B B2 : Nat → Nat) (F : jF) (G : jG) (F2 : jF) (G2 : jG) (M FM : jF) (GM : jG) (a1 : Int32) (hi1 : vp_in (i + 1) L) (ha1 : xs (Int32.toNatClampNeg (i + 1)) = a1) (a2 : Int32) (hi2 : vp_in (i + 2) L) (ha2 : xs (Int32.toNatClampNeg (i + 2)) = a2) (hok : okX11_share F G M a1 a2) (hcod : (gX11_share F G M a1 a2).1 = 0 ∨ (gX11_share F G M a1 a2).1 = 1 ∨ (gX11_share F G M a1 a2).1 = 2) (hok12 : okX12_share FM GM a1 a2) (hth : ∀ (x6 : Int32) (FM1 : jF) (GM1 : jG), (x6, (FM1, GM1)) = (gX12_share FM GM a1 a2) → gX12_thrown FM1 GM1 = wk 1 2 9 (gX11_share F G M a1 a2).1) (hval : ∀ x x6 st6, (gX11_share F G M a1 a2) = (0, x) → (x6, st6) = (gX12_share FM GM a1 a2) → Int32.toInt64 x = Int32.toInt64 x6) (hx : p.tables.exec = Jvm.exec) (hb : c.code = cL_law) (hml : c.maxLocals = 8) (hown : s.vm.findClass RL = some m.cls) (hts : ∀ w ∈ c0 :: wsL_law, w.before args s = true) (hV : va_P D vwCl (kW yy oa O (pV yy h0 an B B2 F G F2 G2 M) (mW yy A FM GM) sa L xs) H) (hK : va_K D vwCl (jT yy) s) (hT : jTP Z s) (hN : jNc s) (hD : va_D Z (kW yy oa O (pV yy h0 an B B2 F G F2 G2 M) (mW yy A FM GM) sa L xs)) (hS : va_S Z s.heap H locs) (hA : ∀ q, s.heap.size ≤ q → Z q) (hX0 : va_X sa L xs s s.heap) (hbl : sa < s.heap.size) (hbA : ¬ Z sa) (hl : lv_has ls 8 [(4, .int i), (3, .ref oa), (2, .ref (A 99)), (1, .ref h0), (0, .ref sa)]) (hf : cells + 9 ≤ rmLaw.cells ∧ slots + 64 ≤ rmLaw.slots)
    (kk : ∀ (x6 : Int32) (FM1 : jF) (GM1 : jG) (O1 : Nat → Int64) (H : Heap) (locs : List Loc) (ls : Array Slot), (x6, (FM1, GM1)) = (gX12_share FM GM a1 a2) → va_P D vwCl (kW yy oa O1 (pV yy h0 an B B2 F G F2 G2 M) (mW yy A FM1 GM1) sa L xs) H → va_D Z (kW yy oa O1 (pV yy h0 an B B2 F G F2 G2 M) (mW yy A FM1 GM1) sa L xs) → va_S Z s.heap H locs → lv_has ls 8 [(4, .int i), (3, .ref oa), (2, .ref (A 99)), (1, .ref h0), (0, .ref sa)] → W p l e rmLaw s m args below meth c H locs (cells + 9) (slots + 64) Q (F0 m 2515 ls [])) : W p l e rmLaw s m args below meth c H locs cells slots Q (F0 m 2419 ls []) := by
  refine lv_aload_n hx hb (dd_of dL_law_37 9 rfl) rfl (lv_at hl 3 rfl) ?_
  refine lv_aload_n hx hb (dd_of dL_law_37 10 rfl) rfl (lv_at hl 4 rfl) ?_
  refine lv_iload hx hb (dd_of dL_law_37 11 rfl) (lv_at hl 0 rfl) ?_
  refine lv_iconst (v := 1) hx hb (dd_of dL_law_37 12 rfl) (by decide) ?_
  refine lv_iadd hx hb (dd_of dL_law_37 13 rfl) ?_
  refine va_sld hx hb hX0 hbl hbA hS hi1 (dd_of dL_law_37 14 rfl) ?_
  rw [ha1]
  refine lv_aload_n hx hb (dd_of dL_law_37 15 rfl) rfl (lv_at hl 4 rfl) ?_
  refine lv_iload hx hb (dd_of dL_law_37 16 rfl) (lv_at hl 0 rfl) ?_
  refine lv_iconst (v := 2) hx hb (dd_of dL_law_37 17 rfl) (by decide) ?_
  refine lv_iadd hx hb (dd_of dL_law_37 18 rfl) ?_
  refine va_sld hx hb hX0 hbl hbA hS hi2 (dd_of dL_law_37 19 rfl) ?_
  rw [ha2]
  refine lv_aload_n hx hb (dd_of dL_law_37 20 rfl) rfl (lv_at hl 1 rfl) ?_
  have hq := qL_share l hl9 D yy oa h0 an O B B2 F G F2 G2 M (mW yy A FM GM ++ []) H.size a1 a2 hok hcod
  refine js_i (As := [.ref h0, .int a1, .int a2, .ref oa]) (rest := []) (D := D) (yy := yy) (w := (kW yy oa O (pV yy h0 an B B2 F G F2 G2 M) (mW yy A FM GM) sa L xs)) (w1 := fun u : Nat → Int64 => kW yy oa u (pV yy h0 an B B2 F G F2 G2 M) (mW yy A FM GM) sa L xs) ⟨hx, hb, hml, hown, hts⟩ hq (vx_cwSW 4 hts (jgW gw1166 gw1167 gw173 gw1168) rfl rfl rfl (by decide +kernel) ⟨Nat.le_of_ble_eq_true rfl, Nat.le_of_ble_eq_true rfl⟩) hV hK hT hN hD hS hA rfl hl.1 rfl (Nat.le_of_ble_eq_true rfl) (dd_of dL_law_37 21 rfl) hf (fun x5 u H locs hp hV hD hS => ?_)
  obtain ⟨O1, hO1⟩ : ∃ z, z = u := ⟨_, rfl⟩
  rw [← hO1] at hp hV hD
  have hp : ((∃ x, (gX11_share F G M a1 a2) = (0, x) ∧ x5 = 0 ∧ O1 = vp_updL O 0 (Int32.toInt64 x)) ∨ ((gX11_share F G M a1 a2).1 ≠ 0 ∧ x5 = wk 1 2 9 (gX11_share F G M a1 a2).1 ∧ O1 = O)) := hp
  have hV : va_P D vwCl (kW yy oa O1 (pV yy h0 an B B2 F G F2 G2 M) (mW yy A FM GM) sa L xs) H := hV
  have hD : va_D Z (kW yy oa O1 (pV yy h0 an B B2 F G F2 G2 M) (mW yy A FM GM) sa L xs) := hD
  have hk5 : x5 = wk 1 2 9 (gX11_share F G M a1 a2).1 := by
    rcases hp with ⟨x, h1, h2, _⟩ | ⟨_, h2, _⟩
    · rw [h2, h1]; rfl
    · exact h2
  refine lv_istore (lv' := [(5, .int x5), (4, .int i), (3, .ref oa), (2, .ref (A 99)), (1, .ref h0), (0, .ref sa)]) hx hb (dd_of dL_law_37 22 rfl) hl (by decide) rfl (fun ls hl => ?_)
  refine lv_aload_n hx hb (dd_of dL_law_37 23 rfl) rfl (lv_at hl 3 rfl) ?_
  refine lv_aload_n hx hb (dd_of dL_law_37 24 rfl) rfl (lv_at hl 5 rfl) ?_
  refine lv_iload hx hb (dd_of dL_law_37 25 rfl) (lv_at hl 1 rfl) ?_
  refine lv_iconst (v := 1) hx hb (dd_of dL_law_37 26 rfl) (by decide) ?_
  refine lv_iadd hx hb (dd_of dL_law_37 27 rfl) ?_
  refine va_sld hx hb hX0 hbl hbA hS hi1 (dd_of dL_law_37 28 rfl) ?_
  rw [ha1]
  refine lv_aload_n hx hb (dd_of dL_law_37 29 rfl) rfl (lv_at hl 5 rfl) ?_
  refine lv_iload hx hb (dd_of dL_law_37 30 rfl) (lv_at hl 1 rfl) ?_
  refine lv_iconst (v := 2) hx hb (dd_of dL_law_37 31 rfl) (by decide) ?_
  refine lv_iadd hx hb (dd_of dL_law_37 32 rfl) ?_
  refine va_sld hx hb hX0 hbl hbA hS hi2 (dd_of dL_law_37 33 rfl) ?_
  rw [ha2]
  refine jt_i (As := [.int a1, .int a2]) (rest := []) (D := D) (yy := yy) (oa := oa) (O := O1) (P := (pV yy h0 an B B2 F G F2 G2 M)) (M := mW yy A FM GM) (w1 := fun u : jS => mW yy A u.1 u.2) ⟨hx, hb, hml, hown, hts⟩ (qX12_share l D yy A FM GM H.size a1 a2 hok12) (cwV 2 hts (jgV gw1208 gw1209 gw1210 gw5 gw1211) rfl rfl rfl (by decide +kernel) ⟨Nat.le_of_ble_eq_true rfl, Nat.le_of_ble_eq_true rfl⟩) hV hK hD hS hA (va_recv hK (kW_M hV) (ci := 12) (q0 := 0) rfl rfl) rfl hl.1 rfl (Nat.le_of_ble_eq_true rfl) (dd_of dL_law_37 34 rfl) hf (fun x6 u H locs h6 hV hD hS => ?_)
  obtain ⟨FM1, GM1⟩ := u
  have h6 : (x6, (FM1, GM1)) = (gX12_share FM GM a1 a2) := h6
  have hV : va_P D vwCl (kW yy oa O1 (pV yy h0 an B B2 F G F2 G2 M) (mW yy A FM1 GM1) sa L xs) H := hV
  have hD : va_D Z (kW yy oa O1 (pV yy h0 an B B2 F G F2 G2 M) (mW yy A FM1 GM1) sa L xs) := hD
  refine lv_istore (lv' := [(6, .int x6), (5, .int x5), (4, .int i), (3, .ref oa), (2, .ref (A 99)), (1, .ref h0), (0, .ref sa)]) hx hb (dd_of dL_law_37 35 rfl) hl (by decide) rfl (fun ls hl => ?_)
  refine lv_aload_n hx hb (dd_of dL_law_37 36 rfl) rfl (lv_at hl 4 rfl) ?_
  refine jc_i (As := []) (rest := []) (w := mW yy A FM1 GM1) (D := D) (yy := yy) ⟨hx, hb, hml, hown, hts⟩ (qX12_thrown l D yy A FM1 GM1) (cwV 0 hts (jgV gw594 gw595 gw596 gw5 gw597) rfl rfl rfl (by decide +kernel) ⟨Nat.le_of_ble_eq_true rfl, Nat.le_of_ble_eq_true rfl⟩) (kW_M hV) hK (va_recv hK (kW_M hV) (ci := 12) (q0 := 0) rfl rfl) rfl hl.1 rfl (Nat.le_of_ble_eq_true rfl) (dd_of dL_law_37 37 rfl) hf (fun x7 e7 => ?_)
  refine lv_iload hx hb (dd_of dL_law_37 38 rfl) (lv_at hl 1 rfl) ?_
  refine lv_icmp_eq (tgt := 2467) hx hb (dd_of dL_law_37 39 rfl) (by decide) (fun c7 => ?_) (fun c7 => absurd (e7.trans ((hth _ _ _ h6).trans hk5.symm)) c7)
  refine lv_iload hx hb (dd_of dL_law_38 2 rfl) (lv_at hl 1 rfl) ?_
  refine lv_if_ne (tgt := 2484) hx hb (dd_of dL_law_38 3 rfl) (by decide) (fun c8 => ?_) (fun c8 => ?_)
  · skip
    refine lv_goto (tgt := 2515) hx hb (dd_of dL_law_38 13 rfl) (by decide) ?_
    exact kk x6 FM1 GM1 O1 H locs ls h6 hV hD hS (lv_sub hl [2, 3, 4, 5, 6] rfl)
  · skip
    have hO := kW_O hV
    have h9 : O1 0 = Int32.toInt64 x6 := by
      rcases hp with ⟨x, h1, _, h2⟩ | ⟨h1, h2, _⟩
      · rw [h2]; exact hval _ _ _ h1 h6
      · exfalso; rw [h2] at c8; rcases hcod with hq | hq | hq <;> first | exact h1 hq | (rw [hq] at c8; exact absurd c8 (by decide))
    refine lv_aload_n hx hb (dd_of dL_law_38 4 rfl) rfl (lv_at hl 3 rfl) ?_
    refine lv_iconst (v := 0) hx hb (dd_of dL_law_38 5 rfl) (by decide) ?_
    refine va_lald hx hb hK hO 0 1 rfl rfl (vin_lit (by decide)) (dd_of dL_law_38 6 rfl) ?_
    refine lv_iload hx hb (dd_of dL_law_38 7 rfl) (lv_at hl 0 rfl) ?_
    refine lv_i2l (v := Int32.toInt64 x6) hx hb (dd_of dL_law_38 8 rfl) rfl ?_
    refine jl_eq (tgt := 2484) hx hb (dd_of dL_law_38 9 rfl) (dd_of dL_law_38 10 rfl) (by decide) (fun c10 => ?_) (fun c10 => absurd h9 c10)
    refine lv_goto (tgt := 2515) hx hb (dd_of dL_law_38 13 rfl) (by decide) ?_
    exact kk x6 FM1 GM1 O1 H locs ls h6 hV hD hS (lv_sub hl [2, 3, 4, 5, 6] rfl)
