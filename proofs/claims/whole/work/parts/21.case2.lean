-- cases of the law
set_option maxHeartbeats 4000000 in
set_option maxRecDepth 100000 in
theorem cs_storm {p : Program} {l : Launch} {e : Env} {s : State} {m : MethodId} {args : Array Value} {below : List Frame} {meth : Method} {c : Code} {H : Heap} {locs : List Loc} {cells slots : Nat} {Q : State → Prop} {ls : Array Slot} {c0 : Cond} {D : va_G} {yy : Nat → ClassId} {Z : Nat → Prop} (hl9 : l.stackTraces = false) (oa h0 an sa L : Nat) (i : Int32) (xs : Nat → Int32) (O : Nat → Int64) (A B B2 : Nat → Nat) (F : jF) (G : jG) (F2 : jF) (G2 : jG) (M FM : jF) (GM : jG) (a1 : Int32) (hi1 : vp_in (i + 1) L) (ha1 : xs (Int32.toNatClampNeg (i + 1)) = a1) (a2 : Int32) (hi2 : vp_in (i + 2) L) (ha2 : xs (Int32.toNatClampNeg (i + 2)) = a2) (a3 : Int32) (hi3 : vp_in (i + 3) L) (ha3 : xs (Int32.toNatClampNeg (i + 3)) = a3) (hok : okX11_storm F G M a1 a2 a3) (hcod : (gX11_storm F G M a1 a2 a3).1 = 0 ∨ (gX11_storm F G M a1 a2 a3).1 = 2 ∨ (gX11_storm F G M a1 a2 a3).1 = 3) (hok12 : okX12_storm FM GM a1 a2 a3) (hth : ∀ (x6 : Int32) (FM1 : jF) (GM1 : jG), (x6, (FM1, GM1)) = (gX12_storm FM GM a1 a2 a3) → gX12_thrown FM1 GM1 = wk 2 3 9 (gX11_storm F G M a1 a2 a3).1) (hval : ∀ x st x6 st6, (gX11_storm F G M a1 a2 a3) = (0, (x, st)) → (x6, st6) = (gX12_storm FM GM a1 a2 a3) → Int32.toInt64 x = Int32.toInt64 x6) (hx : p.tables.exec = Jvm.exec) (hb : c.code = cL_law) (hml : c.maxLocals = 8) (hown : s.vm.findClass RL = some m.cls) (hts : ∀ w ∈ c0 :: wsL_law, w.before args s = true) (hV : va_P D vwCl (kW yy oa O (pV yy h0 an B B2 F G F2 G2 M) (mW yy A FM GM) sa L xs) H) (hK : va_K D vwCl (jT yy) s) (hT : jTP Z s) (hN : jNc s) (hD : va_D Z (kW yy oa O (pV yy h0 an B B2 F G F2 G2 M) (mW yy A FM GM) sa L xs)) (hS : va_S Z s.heap H locs) (hA : ∀ q, s.heap.size ≤ q → Z q) (hl : lv_has ls 8 [(4, .int i), (3, .ref oa), (2, .ref (A 99)), (1, .ref h0), (0, .ref sa)]) (hf : cells + 9 ≤ rmLaw.cells ∧ slots + 64 ≤ rmLaw.slots)
    (kk : ∀ (B1 : Nat → Nat) (F1 : jF) (G1 : jG) (M1 : jF) (x6 : Int32) (FM1 : jF) (GM1 : jG) (O1 : Nat → Int64) (H : Heap) (locs : List Loc) (ls : Array Slot), ((∃ x, (gX11_storm F G M a1 a2 a3) = (0, (x, ((F1, G1), M1)))) ∨ ((gX11_storm F G M a1 a2 a3).1 ≠ 0 ∧ B1 = B ∧ F1 = F ∧ G1 = G ∧ M1 = M)) → (∀ k, k < 100 → B1 k = B k) → (x6, (FM1, GM1)) = (gX12_storm FM GM a1 a2 a3) → va_P D vwCl (kW yy oa O1 (pV yy h0 an B1 B2 F1 G1 F2 G2 M1) (mW yy A FM1 GM1) sa L xs) H → va_D Z (kW yy oa O1 (pV yy h0 an B1 B2 F1 G1 F2 G2 M1) (mW yy A FM1 GM1) sa L xs) → va_S Z s.heap H locs → lv_has ls 8 [(4, .int i), (3, .ref oa), (2, .ref (A 99)), (1, .ref h0), (0, .ref sa)] → W p l e rmLaw s m args below meth c H locs (cells + 9) (slots + 64) Q (F0 m 2515 ls [])) : W p l e rmLaw s m args below meth c H locs cells slots Q (F0 m 870 ls []) := by
  have hX := kW_X hV
  refine lv_aload_n hx hb (dd_of dL_law_12 9 rfl) rfl (lv_at hl 3 rfl) ?_
  refine lv_aload_n hx hb (dd_of dL_law_12 10 rfl) rfl (lv_at hl 4 rfl) ?_
  refine lv_iload hx hb (dd_of dL_law_12 11 rfl) (lv_at hl 0 rfl) ?_
  refine lv_iconst (v := 1) hx hb (dd_of dL_law_12 12 rfl) (by decide) ?_
  refine lv_iadd hx hb (dd_of dL_law_12 13 rfl) ?_
  refine va_iald hx hb hK hX 0 0 rfl rfl hi1 (dd_of dL_law_12 14 rfl) ?_
  rw [ha1]
  refine lv_aload_n hx hb (dd_of dL_law_12 15 rfl) rfl (lv_at hl 4 rfl) ?_
  refine lv_iload hx hb (dd_of dL_law_12 16 rfl) (lv_at hl 0 rfl) ?_
  refine lv_iconst (v := 2) hx hb (dd_of dL_law_12 17 rfl) (by decide) ?_
  refine lv_iadd hx hb (dd_of dL_law_12 18 rfl) ?_
  refine va_iald hx hb hK hX 0 0 rfl rfl hi2 (dd_of dL_law_12 19 rfl) ?_
  rw [ha2]
  refine lv_aload_n hx hb (dd_of dL_law_12 20 rfl) rfl (lv_at hl 4 rfl) ?_
  refine lv_iload hx hb (dd_of dL_law_12 21 rfl) (lv_at hl 0 rfl) ?_
  refine lv_iconst (v := 3) hx hb (dd_of dL_law_12 22 rfl) (by decide) ?_
  refine lv_iadd hx hb (dd_of dL_law_12 23 rfl) ?_
  refine va_iald hx hb hK hX 0 0 rfl rfl hi3 (dd_of dL_law_12 24 rfl) ?_
  rw [ha3]
  refine lv_aload_n hx hb (dd_of dL_law_12 25 rfl) rfl (lv_at hl 1 rfl) ?_
  refine js_i (As := [.ref h0, .int a1, .int a2, .int a3, .ref oa]) (rest := []) (D := D) (yy := yy) (w := (kW yy oa O (pV yy h0 an B B2 F G F2 G2 M) (mW yy A FM GM) sa L xs)) (w1 := fun u : (((Nat → Nat) × jS) × jF) × (Nat → Int64) => kW yy oa u.2 (pV yy h0 an u.1.1.1 B2 u.1.1.2.1 u.1.1.2.2 F2 G2 u.1.2) (mW yy A FM GM) sa L xs) ⟨hx, hb, hml, hown, hts⟩ (qL_storm l hl9 D yy oa h0 an O B B2 F G F2 G2 M (mW yy A FM GM ++ [(sa, .inl (yy 0, L, .inl xs))]) H.size a1 a2 a3 hok hcod) (vx_cwSW 5 hts (jgW gw723 gw724 gw173 gw725) rfl rfl rfl (by decide +kernel) ⟨Nat.le_of_ble_eq_true rfl, Nat.le_of_ble_eq_true rfl⟩) hV hK hT hN hD hS hA rfl hl.1 rfl (Nat.le_of_ble_eq_true rfl) (dd_of dL_law_12 26 rfl) hf (fun x5 u H locs hp hV hD hS => ?_)
  obtain ⟨⟨⟨B1, F1, G1⟩, M1⟩, O1⟩ := u
  obtain ⟨hp, hB1⟩ := hp
  have hB1 : ∀ k, k < 100 → B1 k = B k := hB1
  have hp : ((∃ x, (gX11_storm F G M a1 a2 a3) = (0, (x, ((F1, G1), M1))) ∧ x5 = 0 ∧ O1 = vp_updL O 0 (Int32.toInt64 x)) ∨ ((gX11_storm F G M a1 a2 a3).1 ≠ 0 ∧ x5 = wk 2 3 9 (gX11_storm F G M a1 a2 a3).1 ∧ (((B1, (F1, G1)), M1), O1) = (((B, (F, G)), M), O))) := hp
  have hV : va_P D vwCl (kW yy oa O1 (pV yy h0 an B1 B2 F1 G1 F2 G2 M1) (mW yy A FM GM) sa L xs) H := hV
  have hD : va_D Z (kW yy oa O1 (pV yy h0 an B1 B2 F1 G1 F2 G2 M1) (mW yy A FM GM) sa L xs) := hD
  have hX := kW_X hV
  have hk5 : x5 = wk 2 3 9 (gX11_storm F G M a1 a2 a3).1 := by
    rcases hp with ⟨x, h1, h2, _⟩ | ⟨_, h2, _⟩
    · rw [h2, h1]; rfl
    · exact h2
  refine lv_istore (lv' := [(5, .int x5), (4, .int i), (3, .ref oa), (2, .ref (A 99)), (1, .ref h0), (0, .ref sa)]) hx hb (dd_of dL_law_12 27 rfl) hl (by decide) rfl (fun ls hl => ?_)
  refine lv_aload_n hx hb (dd_of dL_law_12 28 rfl) rfl (lv_at hl 3 rfl) ?_
  refine lv_aload_n hx hb (dd_of dL_law_12 29 rfl) rfl (lv_at hl 5 rfl) ?_
  refine lv_iload hx hb (dd_of dL_law_12 30 rfl) (lv_at hl 1 rfl) ?_
  refine lv_iconst (v := 1) hx hb (dd_of dL_law_12 31 rfl) (by decide) ?_
  refine lv_iadd hx hb (dd_of dL_law_12 32 rfl) ?_
  refine va_iald hx hb hK hX 0 0 rfl rfl hi1 (dd_of dL_law_12 33 rfl) ?_
  rw [ha1]
  refine lv_aload_n hx hb (dd_of dL_law_12 34 rfl) rfl (lv_at hl 5 rfl) ?_
  refine lv_iload hx hb (dd_of dL_law_12 35 rfl) (lv_at hl 1 rfl) ?_
  refine lv_iconst (v := 2) hx hb (dd_of dL_law_12 36 rfl) (by decide) ?_
  refine lv_iadd hx hb (dd_of dL_law_12 37 rfl) ?_
  refine va_iald hx hb hK hX 0 0 rfl rfl hi2 (dd_of dL_law_12 38 rfl) ?_
  rw [ha2]
  refine lv_aload_n hx hb (dd_of dL_law_12 39 rfl) rfl (lv_at hl 5 rfl) ?_
  refine lv_iload hx hb (dd_of dL_law_13 0 rfl) (lv_at hl 1 rfl) ?_
  refine lv_iconst (v := 3) hx hb (dd_of dL_law_13 1 rfl) (by decide) ?_
  refine lv_iadd hx hb (dd_of dL_law_13 2 rfl) ?_
  refine va_iald hx hb hK hX 0 0 rfl rfl hi3 (dd_of dL_law_13 3 rfl) ?_
  rw [ha3]
  refine jt_i (As := [.int a1, .int a2, .int a3]) (rest := []) (D := D) (yy := yy) (oa := oa) (O := O1) (P := (pV yy h0 an B1 B2 F1 G1 F2 G2 M1)) (M := mW yy A FM GM) (w1 := fun u : jS => mW yy A u.1 u.2) ⟨hx, hb, hml, hown, hts⟩ (qX12_storm l D yy A FM GM H.size a1 a2 a3 hok12) (cwV 3 hts (jgV gw732 gw733 gw734 gw5 gw735) rfl rfl rfl (by decide +kernel) ⟨Nat.le_of_ble_eq_true rfl, Nat.le_of_ble_eq_true rfl⟩) hV hK hD hS hA (va_recv hK (kW_M hV) (ci := 12) (q0 := 0) rfl rfl) rfl hl.1 rfl (Nat.le_of_ble_eq_true rfl) (dd_of dL_law_13 4 rfl) hf (fun x6 u H locs h6 hV hD hS => ?_)
  obtain ⟨FM1, GM1⟩ := u
  have h6 : (x6, (FM1, GM1)) = (gX12_storm FM GM a1 a2 a3) := h6
  have hV : va_P D vwCl (kW yy oa O1 (pV yy h0 an B1 B2 F1 G1 F2 G2 M1) (mW yy A FM1 GM1) sa L xs) H := hV
  have hD : va_D Z (kW yy oa O1 (pV yy h0 an B1 B2 F1 G1 F2 G2 M1) (mW yy A FM1 GM1) sa L xs) := hD
  refine lv_istore (lv' := [(6, .int x6), (5, .int x5), (4, .int i), (3, .ref oa), (2, .ref (A 99)), (1, .ref h0), (0, .ref sa)]) hx hb (dd_of dL_law_13 5 rfl) hl (by decide) rfl (fun ls hl => ?_)
  refine lv_aload_n hx hb (dd_of dL_law_13 6 rfl) rfl (lv_at hl 4 rfl) ?_
  refine jc_i (As := []) (rest := []) (w := mW yy A FM1 GM1) (D := D) (yy := yy) ⟨hx, hb, hml, hown, hts⟩ (qX12_thrown l D yy A FM1 GM1) (cwV 0 hts (jgV gw594 gw595 gw596 gw5 gw597) rfl rfl rfl (by decide +kernel) ⟨Nat.le_of_ble_eq_true rfl, Nat.le_of_ble_eq_true rfl⟩) (kW_M hV) hK (va_recv hK (kW_M hV) (ci := 12) (q0 := 0) rfl rfl) rfl hl.1 rfl (Nat.le_of_ble_eq_true rfl) (dd_of dL_law_13 7 rfl) hf (fun x7 e7 => ?_)
  refine lv_iload hx hb (dd_of dL_law_13 8 rfl) (lv_at hl 1 rfl) ?_
  refine lv_icmp_eq (tgt := 930) hx hb (dd_of dL_law_13 9 rfl) (by decide) (fun c7 => ?_) (fun c7 => absurd (e7.trans ((hth _ _ _ h6).trans hk5.symm)) c7)
  have how : ((∃ x, (gX11_storm F G M a1 a2 a3) = (0, (x, ((F1, G1), M1)))) ∨ ((gX11_storm F G M a1 a2 a3).1 ≠ 0 ∧ B1 = B ∧ F1 = F ∧ G1 = G ∧ M1 = M)) := by
    rcases hp with ⟨x, h1, _, _⟩ | ⟨h1, _, h2⟩
    · exact Or.inl ⟨x, h1⟩
    · simp only [Prod.mk.injEq] at h2
      exact Or.inr ⟨h1, h2.1.1.1, h2.1.1.2.1, h2.1.1.2.2, h2.1.2⟩
  refine lv_iload hx hb (dd_of dL_law_13 12 rfl) (lv_at hl 1 rfl) ?_
  refine lv_if_ne (tgt := 947) hx hb (dd_of dL_law_13 13 rfl) (by decide) (fun c8 => ?_) (fun c8 => ?_)
  · skip
    refine lv_goto (tgt := 2515) hx hb (dd_of dL_law_13 23 rfl) (by decide) ?_
    exact kk B1 F1 G1 M1 x6 FM1 GM1 O1 H locs ls how hB1 h6 hV hD hS (lv_sub hl [2, 3, 4, 5, 6] rfl)
  · skip
    have hO := kW_O hV
    have h9 : O1 0 = Int32.toInt64 x6 := by
      rcases hp with ⟨x, h1, _, h2⟩ | ⟨h1, h2, _⟩
      · rw [h2]; exact hval _ _ _ _ h1 h6
      · exfalso; rw [h2] at c8; rcases hcod with hq | hq | hq <;> first | exact h1 hq | (rw [hq] at c8; exact absurd c8 (by decide))
    refine lv_aload_n hx hb (dd_of dL_law_13 14 rfl) rfl (lv_at hl 3 rfl) ?_
    refine lv_iconst (v := 0) hx hb (dd_of dL_law_13 15 rfl) (by decide) ?_
    refine va_lald hx hb hK hO 0 1 rfl rfl (vin_lit (by decide)) (dd_of dL_law_13 16 rfl) ?_
    refine lv_iload hx hb (dd_of dL_law_13 17 rfl) (lv_at hl 0 rfl) ?_
    refine lv_i2l (v := Int32.toInt64 x6) hx hb (dd_of dL_law_13 18 rfl) rfl ?_
    refine jl_eq (tgt := 947) hx hb (dd_of dL_law_13 19 rfl) (dd_of dL_law_13 20 rfl) (by decide) (fun c10 => ?_) (fun c10 => absurd h9 c10)
    refine lv_goto (tgt := 2515) hx hb (dd_of dL_law_13 23 rfl) (by decide) ?_
    exact kk B1 F1 G1 M1 x6 FM1 GM1 O1 H locs ls how hB1 h6 hV hD hS (lv_sub hl [2, 3, 4, 5, 6] rfl)
set_option maxHeartbeats 4000000 in
set_option maxRecDepth 100000 in
theorem cs_rain {p : Program} {l : Launch} {e : Env} {s : State} {m : MethodId} {args : Array Value} {below : List Frame} {meth : Method} {c : Code} {H : Heap} {locs : List Loc} {cells slots : Nat} {Q : State → Prop} {ls : Array Slot} {c0 : Cond} {D : va_G} {yy : Nat → ClassId} {Z : Nat → Prop} (hl9 : l.stackTraces = false) (oa h0 an sa L : Nat) (i : Int32) (xs : Nat → Int32) (O : Nat → Int64) (A B B2 : Nat → Nat) (F : jF) (G : jG) (F2 : jF) (G2 : jG) (M FM : jF) (GM : jG) (a1 : Int32) (hi1 : vp_in (i + 1) L) (ha1 : xs (Int32.toNatClampNeg (i + 1)) = a1) (a2 : Int32) (hi2 : vp_in (i + 2) L) (ha2 : xs (Int32.toNatClampNeg (i + 2)) = a2) (a3 : Int32) (hi3 : vp_in (i + 3) L) (ha3 : xs (Int32.toNatClampNeg (i + 3)) = a3) (a4 : Int32) (hi4 : vp_in (i + 4) L) (ha4 : xs (Int32.toNatClampNeg (i + 4)) = a4) (hok : okX11_rain F G M a1 a2 a3 a4) (hcod : (gX11_rain F G M a1 a2 a3 a4).1 = 0 ∨ (gX11_rain F G M a1 a2 a3 a4).1 = 1 ∨ (gX11_rain F G M a1 a2 a3 a4).1 = 2 ∨ (gX11_rain F G M a1 a2 a3 a4).1 = 3) (hok12 : okX12_rain FM GM a1 a2 a3 a4) (hth : ∀ (x6 : Int32) (FM1 : jF) (GM1 : jG), (x6, (FM1, GM1)) = (gX12_rain FM GM a1 a2 a3 a4) → gX12_thrown FM1 GM1 = wk 1 2 3 (gX11_rain F G M a1 a2 a3 a4).1) (hval : ∀ x st x6 st6, (gX11_rain F G M a1 a2 a3 a4) = (0, (x, st)) → (x6, st6) = (gX12_rain FM GM a1 a2 a3 a4) → Int32.toInt64 x = Int32.toInt64 x6) (hx : p.tables.exec = Jvm.exec) (hb : c.code = cL_law) (hml : c.maxLocals = 8) (hown : s.vm.findClass RL = some m.cls) (hts : ∀ w ∈ c0 :: wsL_law, w.before args s = true) (hV : va_P D vwCl (kW yy oa O (pV yy h0 an B B2 F G F2 G2 M) (mW yy A FM GM) sa L xs) H) (hK : va_K D vwCl (jT yy) s) (hT : jTP Z s) (hN : jNc s) (hD : va_D Z (kW yy oa O (pV yy h0 an B B2 F G F2 G2 M) (mW yy A FM GM) sa L xs)) (hS : va_S Z s.heap H locs) (hA : ∀ q, s.heap.size ≤ q → Z q) (hl : lv_has ls 8 [(4, .int i), (3, .ref oa), (2, .ref (A 99)), (1, .ref h0), (0, .ref sa)]) (hf : cells + 9 ≤ rmLaw.cells ∧ slots + 64 ≤ rmLaw.slots)
    (kk : ∀ (B1 : Nat → Nat) (F1 : jF) (G1 : jG) (M1 : jF) (x6 : Int32) (FM1 : jF) (GM1 : jG) (O1 : Nat → Int64) (H : Heap) (locs : List Loc) (ls : Array Slot), ((∃ x, (gX11_rain F G M a1 a2 a3 a4) = (0, (x, ((F1, G1), M1)))) ∨ ((gX11_rain F G M a1 a2 a3 a4).1 ≠ 0 ∧ B1 = B ∧ F1 = F ∧ G1 = G ∧ M1 = M)) → (∀ k, k < 100 → B1 k = B k) → (x6, (FM1, GM1)) = (gX12_rain FM GM a1 a2 a3 a4) → va_P D vwCl (kW yy oa O1 (pV yy h0 an B1 B2 F1 G1 F2 G2 M1) (mW yy A FM1 GM1) sa L xs) H → va_D Z (kW yy oa O1 (pV yy h0 an B1 B2 F1 G1 F2 G2 M1) (mW yy A FM1 GM1) sa L xs) → va_S Z s.heap H locs → lv_has ls 8 [(4, .int i), (3, .ref oa), (2, .ref (A 99)), (1, .ref h0), (0, .ref sa)] → W p l e rmLaw s m args below meth c H locs (cells + 9) (slots + 64) Q (F0 m 2515 ls [])) : W p l e rmLaw s m args below meth c H locs cells slots Q (F0 m 950 ls []) := by
  have hX := kW_X hV
  refine lv_aload_n hx hb (dd_of dL_law_13 24 rfl) rfl (lv_at hl 3 rfl) ?_
  refine lv_aload_n hx hb (dd_of dL_law_13 25 rfl) rfl (lv_at hl 4 rfl) ?_
  refine lv_iload hx hb (dd_of dL_law_13 26 rfl) (lv_at hl 0 rfl) ?_
  refine lv_iconst (v := 1) hx hb (dd_of dL_law_13 27 rfl) (by decide) ?_
  refine lv_iadd hx hb (dd_of dL_law_13 28 rfl) ?_
  refine va_iald hx hb hK hX 0 0 rfl rfl hi1 (dd_of dL_law_13 29 rfl) ?_
  rw [ha1]
  refine lv_aload_n hx hb (dd_of dL_law_13 30 rfl) rfl (lv_at hl 4 rfl) ?_
  refine lv_iload hx hb (dd_of dL_law_13 31 rfl) (lv_at hl 0 rfl) ?_
  refine lv_iconst (v := 2) hx hb (dd_of dL_law_13 32 rfl) (by decide) ?_
  refine lv_iadd hx hb (dd_of dL_law_13 33 rfl) ?_
  refine va_iald hx hb hK hX 0 0 rfl rfl hi2 (dd_of dL_law_13 34 rfl) ?_
  rw [ha2]
  refine lv_aload_n hx hb (dd_of dL_law_13 35 rfl) rfl (lv_at hl 4 rfl) ?_
  refine lv_iload hx hb (dd_of dL_law_13 36 rfl) (lv_at hl 0 rfl) ?_
  refine lv_iconst (v := 3) hx hb (dd_of dL_law_13 37 rfl) (by decide) ?_
  refine lv_iadd hx hb (dd_of dL_law_13 38 rfl) ?_
  refine va_iald hx hb hK hX 0 0 rfl rfl hi3 (dd_of dL_law_13 39 rfl) ?_
  rw [ha3]
  refine lv_aload_n hx hb (dd_of dL_law_14 0 rfl) rfl (lv_at hl 4 rfl) ?_
  refine lv_iload hx hb (dd_of dL_law_14 1 rfl) (lv_at hl 0 rfl) ?_
  refine lv_iconst (v := 4) hx hb (dd_of dL_law_14 2 rfl) (by decide) ?_
  refine lv_iadd hx hb (dd_of dL_law_14 3 rfl) ?_
  refine va_iald hx hb hK hX 0 0 rfl rfl hi4 (dd_of dL_law_14 4 rfl) ?_
  rw [ha4]
  refine lv_aload_n hx hb (dd_of dL_law_14 5 rfl) rfl (lv_at hl 1 rfl) ?_
  refine js_i (As := [.ref h0, .int a1, .int a2, .int a3, .int a4, .ref oa]) (rest := []) (D := D) (yy := yy) (w := (kW yy oa O (pV yy h0 an B B2 F G F2 G2 M) (mW yy A FM GM) sa L xs)) (w1 := fun u : (((Nat → Nat) × jS) × jF) × (Nat → Int64) => kW yy oa u.2 (pV yy h0 an u.1.1.1 B2 u.1.1.2.1 u.1.1.2.2 F2 G2 u.1.2) (mW yy A FM GM) sa L xs) ⟨hx, hb, hml, hown, hts⟩ (qL_rain l hl9 D yy oa h0 an O B B2 F G F2 G2 M (mW yy A FM GM ++ [(sa, .inl (yy 0, L, .inl xs))]) H.size a1 a2 a3 a4 hok hcod) (vx_cwSW 6 hts (jgW gw737 gw738 gw173 gw739) rfl rfl rfl (by decide +kernel) ⟨Nat.le_of_ble_eq_true rfl, Nat.le_of_ble_eq_true rfl⟩) hV hK hT hN hD hS hA rfl hl.1 rfl (Nat.le_of_ble_eq_true rfl) (dd_of dL_law_14 6 rfl) hf (fun x5 u H locs hp hV hD hS => ?_)
  obtain ⟨⟨⟨B1, F1, G1⟩, M1⟩, O1⟩ := u
  obtain ⟨hp, hB1⟩ := hp
  have hB1 : ∀ k, k < 100 → B1 k = B k := hB1
  have hp : ((∃ x, (gX11_rain F G M a1 a2 a3 a4) = (0, (x, ((F1, G1), M1))) ∧ x5 = 0 ∧ O1 = vp_updL O 0 (Int32.toInt64 x)) ∨ ((gX11_rain F G M a1 a2 a3 a4).1 ≠ 0 ∧ x5 = wk 1 2 3 (gX11_rain F G M a1 a2 a3 a4).1 ∧ (((B1, (F1, G1)), M1), O1) = (((B, (F, G)), M), O))) := hp
  have hV : va_P D vwCl (kW yy oa O1 (pV yy h0 an B1 B2 F1 G1 F2 G2 M1) (mW yy A FM GM) sa L xs) H := hV
  have hD : va_D Z (kW yy oa O1 (pV yy h0 an B1 B2 F1 G1 F2 G2 M1) (mW yy A FM GM) sa L xs) := hD
  have hX := kW_X hV
  have hk5 : x5 = wk 1 2 3 (gX11_rain F G M a1 a2 a3 a4).1 := by
    rcases hp with ⟨x, h1, h2, _⟩ | ⟨_, h2, _⟩
    · rw [h2, h1]; rfl
    · exact h2
  refine lv_istore (lv' := [(5, .int x5), (4, .int i), (3, .ref oa), (2, .ref (A 99)), (1, .ref h0), (0, .ref sa)]) hx hb (dd_of dL_law_14 7 rfl) hl (by decide) rfl (fun ls hl => ?_)
  refine lv_aload_n hx hb (dd_of dL_law_14 8 rfl) rfl (lv_at hl 3 rfl) ?_
  refine lv_aload_n hx hb (dd_of dL_law_14 9 rfl) rfl (lv_at hl 5 rfl) ?_
  refine lv_iload hx hb (dd_of dL_law_14 10 rfl) (lv_at hl 1 rfl) ?_
  refine lv_iconst (v := 1) hx hb (dd_of dL_law_14 11 rfl) (by decide) ?_
  refine lv_iadd hx hb (dd_of dL_law_14 12 rfl) ?_
  refine va_iald hx hb hK hX 0 0 rfl rfl hi1 (dd_of dL_law_14 13 rfl) ?_
  rw [ha1]
  refine lv_aload_n hx hb (dd_of dL_law_14 14 rfl) rfl (lv_at hl 5 rfl) ?_
  refine lv_iload hx hb (dd_of dL_law_14 15 rfl) (lv_at hl 1 rfl) ?_
  refine lv_iconst (v := 2) hx hb (dd_of dL_law_14 16 rfl) (by decide) ?_
  refine lv_iadd hx hb (dd_of dL_law_14 17 rfl) ?_
  refine va_iald hx hb hK hX 0 0 rfl rfl hi2 (dd_of dL_law_14 18 rfl) ?_
  rw [ha2]
  refine lv_aload_n hx hb (dd_of dL_law_14 19 rfl) rfl (lv_at hl 5 rfl) ?_
  refine lv_iload hx hb (dd_of dL_law_14 20 rfl) (lv_at hl 1 rfl) ?_
  refine lv_iconst (v := 3) hx hb (dd_of dL_law_14 21 rfl) (by decide) ?_
  refine lv_iadd hx hb (dd_of dL_law_14 22 rfl) ?_
  refine va_iald hx hb hK hX 0 0 rfl rfl hi3 (dd_of dL_law_14 23 rfl) ?_
  rw [ha3]
  refine lv_aload_n hx hb (dd_of dL_law_14 24 rfl) rfl (lv_at hl 5 rfl) ?_
  refine lv_iload hx hb (dd_of dL_law_14 25 rfl) (lv_at hl 1 rfl) ?_
  refine lv_iconst (v := 4) hx hb (dd_of dL_law_14 26 rfl) (by decide) ?_
  refine lv_iadd hx hb (dd_of dL_law_14 27 rfl) ?_
  refine va_iald hx hb hK hX 0 0 rfl rfl hi4 (dd_of dL_law_14 28 rfl) ?_
  rw [ha4]
  refine jt_i (As := [.int a1, .int a2, .int a3, .int a4]) (rest := []) (D := D) (yy := yy) (oa := oa) (O := O1) (P := (pV yy h0 an B1 B2 F1 G1 F2 G2 M1)) (M := mW yy A FM GM) (w1 := fun u : jS => mW yy A u.1 u.2) ⟨hx, hb, hml, hown, hts⟩ (qX12_rain l D yy A FM GM H.size a1 a2 a3 a4 hok12) (cwV 4 hts (jgV gw745 gw746 gw747 gw5 gw748) rfl rfl rfl (by decide +kernel) ⟨Nat.le_of_ble_eq_true rfl, Nat.le_of_ble_eq_true rfl⟩) hV hK hD hS hA (va_recv hK (kW_M hV) (ci := 12) (q0 := 0) rfl rfl) rfl hl.1 rfl (Nat.le_of_ble_eq_true rfl) (dd_of dL_law_14 29 rfl) hf (fun x6 u H locs h6 hV hD hS => ?_)
  obtain ⟨FM1, GM1⟩ := u
  have h6 : (x6, (FM1, GM1)) = (gX12_rain FM GM a1 a2 a3 a4) := h6
  have hV : va_P D vwCl (kW yy oa O1 (pV yy h0 an B1 B2 F1 G1 F2 G2 M1) (mW yy A FM1 GM1) sa L xs) H := hV
  have hD : va_D Z (kW yy oa O1 (pV yy h0 an B1 B2 F1 G1 F2 G2 M1) (mW yy A FM1 GM1) sa L xs) := hD
  refine lv_istore (lv' := [(6, .int x6), (5, .int x5), (4, .int i), (3, .ref oa), (2, .ref (A 99)), (1, .ref h0), (0, .ref sa)]) hx hb (dd_of dL_law_14 30 rfl) hl (by decide) rfl (fun ls hl => ?_)
  refine lv_aload_n hx hb (dd_of dL_law_14 31 rfl) rfl (lv_at hl 4 rfl) ?_
  refine jc_i (As := []) (rest := []) (w := mW yy A FM1 GM1) (D := D) (yy := yy) ⟨hx, hb, hml, hown, hts⟩ (qX12_thrown l D yy A FM1 GM1) (cwV 0 hts (jgV gw594 gw595 gw596 gw5 gw597) rfl rfl rfl (by decide +kernel) ⟨Nat.le_of_ble_eq_true rfl, Nat.le_of_ble_eq_true rfl⟩) (kW_M hV) hK (va_recv hK (kW_M hV) (ci := 12) (q0 := 0) rfl rfl) rfl hl.1 rfl (Nat.le_of_ble_eq_true rfl) (dd_of dL_law_14 32 rfl) hf (fun x7 e7 => ?_)
  refine lv_iload hx hb (dd_of dL_law_14 33 rfl) (lv_at hl 1 rfl) ?_
  refine lv_icmp_eq (tgt := 1022) hx hb (dd_of dL_law_14 34 rfl) (by decide) (fun c7 => ?_) (fun c7 => absurd (e7.trans ((hth _ _ _ h6).trans hk5.symm)) c7)
  have how : ((∃ x, (gX11_rain F G M a1 a2 a3 a4) = (0, (x, ((F1, G1), M1)))) ∨ ((gX11_rain F G M a1 a2 a3 a4).1 ≠ 0 ∧ B1 = B ∧ F1 = F ∧ G1 = G ∧ M1 = M)) := by
    rcases hp with ⟨x, h1, _, _⟩ | ⟨h1, _, h2⟩
    · exact Or.inl ⟨x, h1⟩
    · simp only [Prod.mk.injEq] at h2
      exact Or.inr ⟨h1, h2.1.1.1, h2.1.1.2.1, h2.1.1.2.2, h2.1.2⟩
  refine lv_iload hx hb (dd_of dL_law_14 37 rfl) (lv_at hl 1 rfl) ?_
  refine lv_if_ne (tgt := 1039) hx hb (dd_of dL_law_14 38 rfl) (by decide) (fun c8 => ?_) (fun c8 => ?_)
  · skip
    refine lv_goto (tgt := 2515) hx hb (dd_of dL_law_15 8 rfl) (by decide) ?_
    exact kk B1 F1 G1 M1 x6 FM1 GM1 O1 H locs ls how hB1 h6 hV hD hS (lv_sub hl [2, 3, 4, 5, 6] rfl)
  · skip
    have hO := kW_O hV
    have h9 : O1 0 = Int32.toInt64 x6 := by
      rcases hp with ⟨x, h1, _, h2⟩ | ⟨h1, h2, _⟩
      · rw [h2]; exact hval _ _ _ _ h1 h6
      · exfalso; rw [h2] at c8; rcases hcod with hq | hq | hq | hq <;> first | exact h1 hq | (rw [hq] at c8; exact absurd c8 (by decide))
    refine lv_aload_n hx hb (dd_of dL_law_14 39 rfl) rfl (lv_at hl 3 rfl) ?_
    refine lv_iconst (v := 0) hx hb (dd_of dL_law_15 0 rfl) (by decide) ?_
    refine va_lald hx hb hK hO 0 1 rfl rfl (vin_lit (by decide)) (dd_of dL_law_15 1 rfl) ?_
    refine lv_iload hx hb (dd_of dL_law_15 2 rfl) (lv_at hl 0 rfl) ?_
    refine lv_i2l (v := Int32.toInt64 x6) hx hb (dd_of dL_law_15 3 rfl) rfl ?_
    refine jl_eq (tgt := 1039) hx hb (dd_of dL_law_15 4 rfl) (dd_of dL_law_15 5 rfl) (by decide) (fun c10 => ?_) (fun c10 => absurd h9 c10)
    refine lv_goto (tgt := 2515) hx hb (dd_of dL_law_15 8 rfl) (by decide) ?_
    exact kk B1 F1 G1 M1 x6 FM1 GM1 O1 H locs ls how hB1 h6 hV hD hS (lv_sub hl [2, 3, 4, 5, 6] rfl)
set_option maxHeartbeats 4000000 in
set_option maxRecDepth 100000 in
theorem cs_setSeed {p : Program} {l : Launch} {e : Env} {s : State} {m : MethodId} {args : Array Value} {below : List Frame} {meth : Method} {c : Code} {H : Heap} {locs : List Loc} {cells slots : Nat} {Q : State → Prop} {ls : Array Slot} {c0 : Cond} {D : va_G} {yy : Nat → ClassId} {Z : Nat → Prop} (hl9 : l.stackTraces = false) (oa h0 an sa L : Nat) (i : Int32) (xs : Nat → Int32) (O : Nat → Int64) (A B B2 : Nat → Nat) (F : jF) (G : jG) (F2 : jF) (G2 : jG) (M FM : jF) (GM : jG) (a1 : Int32) (hi1 : vp_in (i + 1) L) (ha1 : xs (Int32.toNatClampNeg (i + 1)) = a1) (hok : okX11_setSeed F G M a1) (hcod : (gX11_setSeed F G M a1).1 = 0 ∨ (gX11_setSeed F G M a1).1 = 2) (hth : ∀ (x6 : Int32) (FM1 : jF) (GM1 : jG), (x6, (FM1, GM1)) = (gX12_setSeed FM GM a1) → gX12_thrown FM1 GM1 = wk 2 9 9 (gX11_setSeed F G M a1).1) (hval : ∀ x st x6 st6, (gX11_setSeed F G M a1) = (0, (x, st)) → (x6, st6) = (gX12_setSeed FM GM a1) → Int32.toInt64 x = Int32.toInt64 x6) (hx : p.tables.exec = Jvm.exec) (hb : c.code = cL_law) (hml : c.maxLocals = 8) (hown : s.vm.findClass RL = some m.cls) (hts : ∀ w ∈ c0 :: wsL_law, w.before args s = true) (hV : va_P D vwCl (kW yy oa O (pV yy h0 an B B2 F G F2 G2 M) (mW yy A FM GM) sa L xs) H) (hK : va_K D vwCl (jT yy) s) (hT : jTP Z s) (hN : jNc s) (hD : va_D Z (kW yy oa O (pV yy h0 an B B2 F G F2 G2 M) (mW yy A FM GM) sa L xs)) (hS : va_S Z s.heap H locs) (hA : ∀ q, s.heap.size ≤ q → Z q) (hl : lv_has ls 8 [(4, .int i), (3, .ref oa), (2, .ref (A 99)), (1, .ref h0), (0, .ref sa)]) (hf : cells + 9 ≤ rmLaw.cells ∧ slots + 64 ≤ rmLaw.slots)
    (kk : ∀ (B1 : Nat → Nat) (F1 : jF) (G1 : jG) (M1 : jF) (x6 : Int32) (FM1 : jF) (GM1 : jG) (O1 : Nat → Int64) (H : Heap) (locs : List Loc) (ls : Array Slot), ((∃ x, (gX11_setSeed F G M a1) = (0, (x, ((F1, G1), M1)))) ∨ ((gX11_setSeed F G M a1).1 ≠ 0 ∧ B1 = B ∧ F1 = F ∧ G1 = G ∧ M1 = M)) → (∀ k, k < 100 → B1 k = B k) → (x6, (FM1, GM1)) = (gX12_setSeed FM GM a1) → va_P D vwCl (kW yy oa O1 (pV yy h0 an B1 B2 F1 G1 F2 G2 M1) (mW yy A FM1 GM1) sa L xs) H → va_D Z (kW yy oa O1 (pV yy h0 an B1 B2 F1 G1 F2 G2 M1) (mW yy A FM1 GM1) sa L xs) → va_S Z s.heap H locs → lv_has ls 8 [(4, .int i), (3, .ref oa), (2, .ref (A 99)), (1, .ref h0), (0, .ref sa)] → W p l e rmLaw s m args below meth c H locs (cells + 9) (slots + 64) Q (F0 m 2515 ls [])) : W p l e rmLaw s m args below meth c H locs cells slots Q (F0 m 1042 ls []) := by
  have hX := kW_X hV
  refine lv_aload_n hx hb (dd_of dL_law_15 9 rfl) rfl (lv_at hl 3 rfl) ?_
  refine lv_aload_n hx hb (dd_of dL_law_15 10 rfl) rfl (lv_at hl 4 rfl) ?_
  refine lv_iload hx hb (dd_of dL_law_15 11 rfl) (lv_at hl 0 rfl) ?_
  refine lv_iconst (v := 1) hx hb (dd_of dL_law_15 12 rfl) (by decide) ?_
  refine lv_iadd hx hb (dd_of dL_law_15 13 rfl) ?_
  refine va_iald hx hb hK hX 0 0 rfl rfl hi1 (dd_of dL_law_15 14 rfl) ?_
  rw [ha1]
  refine lv_aload_n hx hb (dd_of dL_law_15 15 rfl) rfl (lv_at hl 1 rfl) ?_
  refine js_i (As := [.ref h0, .int a1, .ref oa]) (rest := []) (D := D) (yy := yy) (w := (kW yy oa O (pV yy h0 an B B2 F G F2 G2 M) (mW yy A FM GM) sa L xs)) (w1 := fun u : (((Nat → Nat) × jS) × jF) × (Nat → Int64) => kW yy oa u.2 (pV yy h0 an u.1.1.1 B2 u.1.1.2.1 u.1.1.2.2 F2 G2 u.1.2) (mW yy A FM GM) sa L xs) ⟨hx, hb, hml, hown, hts⟩ (qL_setSeed l hl9 D yy oa h0 an O B B2 F G F2 G2 M (mW yy A FM GM ++ [(sa, .inl (yy 0, L, .inl xs))]) H.size a1 hok hcod) (vx_cwSW 3 hts (jgW gw750 gw751 gw173 gw752) rfl rfl rfl (by decide +kernel) ⟨Nat.le_of_ble_eq_true rfl, Nat.le_of_ble_eq_true rfl⟩) hV hK hT hN hD hS hA rfl hl.1 rfl (Nat.le_of_ble_eq_true rfl) (dd_of dL_law_15 16 rfl) hf (fun x5 u H locs hp hV hD hS => ?_)
  obtain ⟨⟨⟨B1, F1, G1⟩, M1⟩, O1⟩ := u
  obtain ⟨hp, hB1⟩ := hp
  have hB1 : ∀ k, k < 100 → B1 k = B k := hB1
  have hp : ((∃ x, (gX11_setSeed F G M a1) = (0, (x, ((F1, G1), M1))) ∧ x5 = 0 ∧ O1 = vp_updL O 0 (Int32.toInt64 x)) ∨ ((gX11_setSeed F G M a1).1 ≠ 0 ∧ x5 = wk 2 9 9 (gX11_setSeed F G M a1).1 ∧ (((B1, (F1, G1)), M1), O1) = (((B, (F, G)), M), O))) := hp
  have hV : va_P D vwCl (kW yy oa O1 (pV yy h0 an B1 B2 F1 G1 F2 G2 M1) (mW yy A FM GM) sa L xs) H := hV
  have hD : va_D Z (kW yy oa O1 (pV yy h0 an B1 B2 F1 G1 F2 G2 M1) (mW yy A FM GM) sa L xs) := hD
  have hX := kW_X hV
  have hk5 : x5 = wk 2 9 9 (gX11_setSeed F G M a1).1 := by
    rcases hp with ⟨x, h1, h2, _⟩ | ⟨_, h2, _⟩
    · rw [h2, h1]; rfl
    · exact h2
  refine lv_istore (lv' := [(5, .int x5), (4, .int i), (3, .ref oa), (2, .ref (A 99)), (1, .ref h0), (0, .ref sa)]) hx hb (dd_of dL_law_15 17 rfl) hl (by decide) rfl (fun ls hl => ?_)
  refine lv_aload_n hx hb (dd_of dL_law_15 18 rfl) rfl (lv_at hl 3 rfl) ?_
  refine lv_aload_n hx hb (dd_of dL_law_15 19 rfl) rfl (lv_at hl 5 rfl) ?_
  refine lv_iload hx hb (dd_of dL_law_15 20 rfl) (lv_at hl 1 rfl) ?_
  refine lv_iconst (v := 1) hx hb (dd_of dL_law_15 21 rfl) (by decide) ?_
  refine lv_iadd hx hb (dd_of dL_law_15 22 rfl) ?_
  refine va_iald hx hb hK hX 0 0 rfl rfl hi1 (dd_of dL_law_15 23 rfl) ?_
  rw [ha1]
  refine jt_i (As := [.int a1]) (rest := []) (D := D) (yy := yy) (oa := oa) (O := O1) (P := (pV yy h0 an B1 B2 F1 G1 F2 G2 M1)) (M := mW yy A FM GM) (w1 := fun u : jS => mW yy A u.1 u.2) ⟨hx, hb, hml, hown, hts⟩ (qX12_setSeed l D yy A FM GM H.size a1) (cwV 1 hts (jgV gw757 gw758 gw759 gw5 gw760) rfl rfl rfl (by decide +kernel) ⟨Nat.le_of_ble_eq_true rfl, Nat.le_of_ble_eq_true rfl⟩) hV hK hD hS hA (va_recv hK (kW_M hV) (ci := 12) (q0 := 0) rfl rfl) rfl hl.1 rfl (Nat.le_of_ble_eq_true rfl) (dd_of dL_law_15 24 rfl) hf (fun x6 u H locs h6 hV hD hS => ?_)
  obtain ⟨FM1, GM1⟩ := u
  have h6 : (x6, (FM1, GM1)) = (gX12_setSeed FM GM a1) := h6
  have hV : va_P D vwCl (kW yy oa O1 (pV yy h0 an B1 B2 F1 G1 F2 G2 M1) (mW yy A FM1 GM1) sa L xs) H := hV
  have hD : va_D Z (kW yy oa O1 (pV yy h0 an B1 B2 F1 G1 F2 G2 M1) (mW yy A FM1 GM1) sa L xs) := hD
  refine lv_istore (lv' := [(6, .int x6), (5, .int x5), (4, .int i), (3, .ref oa), (2, .ref (A 99)), (1, .ref h0), (0, .ref sa)]) hx hb (dd_of dL_law_15 25 rfl) hl (by decide) rfl (fun ls hl => ?_)
  refine lv_aload_n hx hb (dd_of dL_law_15 26 rfl) rfl (lv_at hl 4 rfl) ?_
  refine jc_i (As := []) (rest := []) (w := mW yy A FM1 GM1) (D := D) (yy := yy) ⟨hx, hb, hml, hown, hts⟩ (qX12_thrown l D yy A FM1 GM1) (cwV 0 hts (jgV gw594 gw595 gw596 gw5 gw597) rfl rfl rfl (by decide +kernel) ⟨Nat.le_of_ble_eq_true rfl, Nat.le_of_ble_eq_true rfl⟩) (kW_M hV) hK (va_recv hK (kW_M hV) (ci := 12) (q0 := 0) rfl rfl) rfl hl.1 rfl (Nat.le_of_ble_eq_true rfl) (dd_of dL_law_15 27 rfl) hf (fun x7 e7 => ?_)
  refine lv_iload hx hb (dd_of dL_law_15 28 rfl) (lv_at hl 1 rfl) ?_
  refine lv_icmp_eq (tgt := 1078) hx hb (dd_of dL_law_15 29 rfl) (by decide) (fun c7 => ?_) (fun c7 => absurd (e7.trans ((hth _ _ _ h6).trans hk5.symm)) c7)
  have how : ((∃ x, (gX11_setSeed F G M a1) = (0, (x, ((F1, G1), M1)))) ∨ ((gX11_setSeed F G M a1).1 ≠ 0 ∧ B1 = B ∧ F1 = F ∧ G1 = G ∧ M1 = M)) := by
    rcases hp with ⟨x, h1, _, _⟩ | ⟨h1, _, h2⟩
    · exact Or.inl ⟨x, h1⟩
    · simp only [Prod.mk.injEq] at h2
      exact Or.inr ⟨h1, h2.1.1.1, h2.1.1.2.1, h2.1.1.2.2, h2.1.2⟩
  refine lv_iload hx hb (dd_of dL_law_15 32 rfl) (lv_at hl 1 rfl) ?_
  refine lv_if_ne (tgt := 1095) hx hb (dd_of dL_law_15 33 rfl) (by decide) (fun c8 => ?_) (fun c8 => ?_)
  · skip
    refine lv_goto (tgt := 2515) hx hb (dd_of dL_law_16 3 rfl) (by decide) ?_
    exact kk B1 F1 G1 M1 x6 FM1 GM1 O1 H locs ls how hB1 h6 hV hD hS (lv_sub hl [2, 3, 4, 5, 6] rfl)
  · skip
    have hO := kW_O hV
    have h9 : O1 0 = Int32.toInt64 x6 := by
      rcases hp with ⟨x, h1, _, h2⟩ | ⟨h1, h2, _⟩
      · rw [h2]; exact hval _ _ _ _ h1 h6
      · exfalso; rw [h2] at c8; rcases hcod with hq | hq <;> first | exact h1 hq | (rw [hq] at c8; exact absurd c8 (by decide))
    refine lv_aload_n hx hb (dd_of dL_law_15 34 rfl) rfl (lv_at hl 3 rfl) ?_
    refine lv_iconst (v := 0) hx hb (dd_of dL_law_15 35 rfl) (by decide) ?_
    refine va_lald hx hb hK hO 0 1 rfl rfl (vin_lit (by decide)) (dd_of dL_law_15 36 rfl) ?_
    refine lv_iload hx hb (dd_of dL_law_15 37 rfl) (lv_at hl 0 rfl) ?_
    refine lv_i2l (v := Int32.toInt64 x6) hx hb (dd_of dL_law_15 38 rfl) rfl ?_
    refine jl_eq (tgt := 1095) hx hb (dd_of dL_law_15 39 rfl) (dd_of dL_law_16 0 rfl) (by decide) (fun c10 => ?_) (fun c10 => absurd h9 c10)
    refine lv_goto (tgt := 2515) hx hb (dd_of dL_law_16 3 rfl) (by decide) ?_
    exact kk B1 F1 G1 M1 x6 FM1 GM1 O1 H locs ls how hB1 h6 hV hD hS (lv_sub hl [2, 3, 4, 5, 6] rfl)
set_option maxHeartbeats 4000000 in
set_option maxRecDepth 100000 in
theorem cs_command {p : Program} {l : Launch} {e : Env} {s : State} {m : MethodId} {args : Array Value} {below : List Frame} {meth : Method} {c : Code} {H : Heap} {locs : List Loc} {cells slots : Nat} {Q : State → Prop} {ls : Array Slot} {c0 : Cond} {D : va_G} {yy : Nat → ClassId} {Z : Nat → Prop} (hl9 : l.stackTraces = false) (oa h0 an sa L : Nat) (i : Int32) (xs : Nat → Int32) (O : Nat → Int64) (A B B2 : Nat → Nat) (F : jF) (G : jG) (F2 : jF) (G2 : jG) (M FM : jF) (GM : jG) (a1 : Int32) (hi1 : vp_in (i + 1) L) (ha1 : xs (Int32.toNatClampNeg (i + 1)) = a1) (a2 : Int32) (hi2 : vp_in (i + 2) L) (ha2 : xs (Int32.toNatClampNeg (i + 2)) = a2) (a3 : Int32) (hi3 : vp_in (i + 3) L) (ha3 : xs (Int32.toNatClampNeg (i + 3)) = a3) (hok : okX11_command F G M a1 (if a2 = 0 then (0 : Int32) else 1) a3) (hcod : (gX11_command F G M a1 (if a2 = 0 then (0 : Int32) else 1) a3).1 = 0 ∨ (gX11_command F G M a1 (if a2 = 0 then (0 : Int32) else 1) a3).1 = 1 ∨ (gX11_command F G M a1 (if a2 = 0 then (0 : Int32) else 1) a3).1 = 2) (hok12 : okX12_command FM GM a1 (if a2 = 0 then (0 : Int32) else 1) a3) (hth : ∀ (x6 : Int32) (FM1 : jF) (GM1 : jG), (x6, (FM1, GM1)) = (gX12_command FM GM a1 (if a2 = 0 then (0 : Int32) else 1) a3) → gX12_thrown FM1 GM1 = wk 1 2 9 (gX11_command F G M a1 (if a2 = 0 then (0 : Int32) else 1) a3).1) (hval : ∀ x st x6 st6, (gX11_command F G M a1 (if a2 = 0 then (0 : Int32) else 1) a3) = (0, (x, st)) → (x6, st6) = (gX12_command FM GM a1 (if a2 = 0 then (0 : Int32) else 1) a3) → Int32.toInt64 x = Int32.toInt64 x6) (hx : p.tables.exec = Jvm.exec) (hb : c.code = cL_law) (hml : c.maxLocals = 8) (hown : s.vm.findClass RL = some m.cls) (hts : ∀ w ∈ c0 :: wsL_law, w.before args s = true) (hV : va_P D vwCl (kW yy oa O (pV yy h0 an B B2 F G F2 G2 M) (mW yy A FM GM) sa L xs) H) (hK : va_K D vwCl (jT yy) s) (hT : jTP Z s) (hN : jNc s) (hD : va_D Z (kW yy oa O (pV yy h0 an B B2 F G F2 G2 M) (mW yy A FM GM) sa L xs)) (hS : va_S Z s.heap H locs) (hA : ∀ q, s.heap.size ≤ q → Z q) (hl : lv_has ls 8 [(4, .int i), (3, .ref oa), (2, .ref (A 99)), (1, .ref h0), (0, .ref sa)]) (hf : cells + 9 ≤ rmLaw.cells ∧ slots + 64 ≤ rmLaw.slots)
    (kk : ∀ (B1 : Nat → Nat) (F1 : jF) (G1 : jG) (M1 : jF) (x6 : Int32) (FM1 : jF) (GM1 : jG) (O1 : Nat → Int64) (H : Heap) (locs : List Loc) (ls : Array Slot), ((∃ x, (gX11_command F G M a1 (if a2 = 0 then (0 : Int32) else 1) a3) = (0, (x, ((F1, G1), M1)))) ∨ ((gX11_command F G M a1 (if a2 = 0 then (0 : Int32) else 1) a3).1 ≠ 0 ∧ B1 = B ∧ F1 = F ∧ G1 = G ∧ M1 = M)) → (∀ k, k < 100 → B1 k = B k) → (x6, (FM1, GM1)) = (gX12_command FM GM a1 (if a2 = 0 then (0 : Int32) else 1) a3) → va_P D vwCl (kW yy oa O1 (pV yy h0 an B1 B2 F1 G1 F2 G2 M1) (mW yy A FM1 GM1) sa L xs) H → va_D Z (kW yy oa O1 (pV yy h0 an B1 B2 F1 G1 F2 G2 M1) (mW yy A FM1 GM1) sa L xs) → va_S Z s.heap H locs → lv_has ls 8 [(4, .int i), (3, .ref oa), (2, .ref (A 99)), (1, .ref h0), (0, .ref sa)] → W p l e rmLaw s m args below meth c H locs (cells + 9) (slots + 64) Q (F0 m 2515 ls [])) : W p l e rmLaw s m args below meth c H locs cells slots Q (F0 m 1098 ls []) := by
  have hX := kW_X hV
  refine lv_aload_n hx hb (dd_of dL_law_16 4 rfl) rfl (lv_at hl 3 rfl) ?_
  refine lv_aload_n hx hb (dd_of dL_law_16 5 rfl) rfl (lv_at hl 4 rfl) ?_
  refine lv_iload hx hb (dd_of dL_law_16 6 rfl) (lv_at hl 0 rfl) ?_
  refine lv_iconst (v := 1) hx hb (dd_of dL_law_16 7 rfl) (by decide) ?_
  refine lv_iadd hx hb (dd_of dL_law_16 8 rfl) ?_
  refine va_iald hx hb hK hX 0 0 rfl rfl hi1 (dd_of dL_law_16 9 rfl) ?_
  rw [ha1]
  refine lv_aload_n hx hb (dd_of dL_law_16 10 rfl) rfl (lv_at hl 4 rfl) ?_
  refine lv_iload hx hb (dd_of dL_law_16 11 rfl) (lv_at hl 0 rfl) ?_
  refine lv_iconst (v := 2) hx hb (dd_of dL_law_16 12 rfl) (by decide) ?_
  refine lv_iadd hx hb (dd_of dL_law_16 13 rfl) ?_
  refine va_iald hx hb hK hX 0 0 rfl rfl hi2 (dd_of dL_law_16 14 rfl) ?_
  rw [ha2]
  refine jn_i (v := (if a2 = 0 then (0 : Int32) else 1)) 1119 [.int a1, .ref h0] (fun z9 ez9 => ?_) (fun K9 => ?_)
  rotate_left
  · refine lv_if_eq (tgt := 1118) hx hb (dd_of dL_law_16 15 rfl) (by decide) (fun c9 => ?_) (fun c9 => ?_)
    · refine lv_iconst (v := 0) hx hb (dd_of dL_law_16 18 rfl) (by decide) ?_
      exact K9 _ (if_pos c9).symm
    · refine lv_iconst (v := 1) hx hb (dd_of dL_law_16 16 rfl) (by decide) ?_
      refine lv_goto (tgt := 1119) hx hb (dd_of dL_law_16 17 rfl) (by decide) ?_
      exact K9 _ (if_neg c9).symm
  subst ez9
  refine lv_aload_n hx hb (dd_of dL_law_16 19 rfl) rfl (lv_at hl 4 rfl) ?_
  refine lv_iload hx hb (dd_of dL_law_16 20 rfl) (lv_at hl 0 rfl) ?_
  refine lv_iconst (v := 3) hx hb (dd_of dL_law_16 21 rfl) (by decide) ?_
  refine lv_iadd hx hb (dd_of dL_law_16 22 rfl) ?_
  refine va_iald hx hb hK hX 0 0 rfl rfl hi3 (dd_of dL_law_16 23 rfl) ?_
  rw [ha3]
  refine lv_aload_n hx hb (dd_of dL_law_16 24 rfl) rfl (lv_at hl 1 rfl) ?_
  refine js_i (As := [.ref h0, .int a1, .int (if a2 = 0 then (0 : Int32) else 1), .int a3, .ref oa]) (rest := []) (D := D) (yy := yy) (w := (kW yy oa O (pV yy h0 an B B2 F G F2 G2 M) (mW yy A FM GM) sa L xs)) (w1 := fun u : (((Nat → Nat) × jS) × jF) × (Nat → Int64) => kW yy oa u.2 (pV yy h0 an u.1.1.1 B2 u.1.1.2.1 u.1.1.2.2 F2 G2 u.1.2) (mW yy A FM GM) sa L xs) ⟨hx, hb, hml, hown, hts⟩ (qL_command l hl9 D yy oa h0 an O B B2 F G F2 G2 M (mW yy A FM GM ++ [(sa, .inl (yy 0, L, .inl xs))]) H.size a1 (if a2 = 0 then (0 : Int32) else 1) a3 hok hcod) (vx_cwSW 5 hts (jgW gw761 gw762 gw173 gw763) rfl rfl rfl (by decide +kernel) ⟨Nat.le_of_ble_eq_true rfl, Nat.le_of_ble_eq_true rfl⟩) hV hK hT hN hD hS hA rfl hl.1 rfl (Nat.le_of_ble_eq_true rfl) (dd_of dL_law_16 25 rfl) hf (fun x5 u H locs hp hV hD hS => ?_)
  obtain ⟨⟨⟨B1, F1, G1⟩, M1⟩, O1⟩ := u
  obtain ⟨hp, hB1⟩ := hp
  have hB1 : ∀ k, k < 100 → B1 k = B k := hB1
  have hp : ((∃ x, (gX11_command F G M a1 (if a2 = 0 then (0 : Int32) else 1) a3) = (0, (x, ((F1, G1), M1))) ∧ x5 = 0 ∧ O1 = vp_updL O 0 (Int32.toInt64 x)) ∨ ((gX11_command F G M a1 (if a2 = 0 then (0 : Int32) else 1) a3).1 ≠ 0 ∧ x5 = wk 1 2 9 (gX11_command F G M a1 (if a2 = 0 then (0 : Int32) else 1) a3).1 ∧ (((B1, (F1, G1)), M1), O1) = (((B, (F, G)), M), O))) := hp
  have hV : va_P D vwCl (kW yy oa O1 (pV yy h0 an B1 B2 F1 G1 F2 G2 M1) (mW yy A FM GM) sa L xs) H := hV
  have hD : va_D Z (kW yy oa O1 (pV yy h0 an B1 B2 F1 G1 F2 G2 M1) (mW yy A FM GM) sa L xs) := hD
  have hX := kW_X hV
  have hk5 : x5 = wk 1 2 9 (gX11_command F G M a1 (if a2 = 0 then (0 : Int32) else 1) a3).1 := by
    rcases hp with ⟨x, h1, h2, _⟩ | ⟨_, h2, _⟩
    · rw [h2, h1]; rfl
    · exact h2
  refine lv_istore (lv' := [(5, .int x5), (4, .int i), (3, .ref oa), (2, .ref (A 99)), (1, .ref h0), (0, .ref sa)]) hx hb (dd_of dL_law_16 26 rfl) hl (by decide) rfl (fun ls hl => ?_)
  refine lv_aload_n hx hb (dd_of dL_law_16 27 rfl) rfl (lv_at hl 3 rfl) ?_
  refine lv_aload_n hx hb (dd_of dL_law_16 28 rfl) rfl (lv_at hl 5 rfl) ?_
  refine lv_iload hx hb (dd_of dL_law_16 29 rfl) (lv_at hl 1 rfl) ?_
  refine lv_iconst (v := 1) hx hb (dd_of dL_law_16 30 rfl) (by decide) ?_
  refine lv_iadd hx hb (dd_of dL_law_16 31 rfl) ?_
  refine va_iald hx hb hK hX 0 0 rfl rfl hi1 (dd_of dL_law_16 32 rfl) ?_
  rw [ha1]
  refine lv_aload_n hx hb (dd_of dL_law_16 33 rfl) rfl (lv_at hl 5 rfl) ?_
  refine lv_iload hx hb (dd_of dL_law_16 34 rfl) (lv_at hl 1 rfl) ?_
  refine lv_iconst (v := 2) hx hb (dd_of dL_law_16 35 rfl) (by decide) ?_
  refine lv_iadd hx hb (dd_of dL_law_16 36 rfl) ?_
  refine va_iald hx hb hK hX 0 0 rfl rfl hi2 (dd_of dL_law_16 37 rfl) ?_
  rw [ha2]
  refine jn_i (v := (if a2 = 0 then (0 : Int32) else 1)) 1152 [.int a1, .ref (A 99)] (fun z9 ez9 => ?_) (fun K9 => ?_)
  rotate_left
  · refine lv_if_eq (tgt := 1151) hx hb (dd_of dL_law_16 38 rfl) (by decide) (fun c9 => ?_) (fun c9 => ?_)
    · refine lv_iconst (v := 0) hx hb (dd_of dL_law_17 1 rfl) (by decide) ?_
      exact K9 _ (if_pos c9).symm
    · refine lv_iconst (v := 1) hx hb (dd_of dL_law_16 39 rfl) (by decide) ?_
      refine lv_goto (tgt := 1152) hx hb (dd_of dL_law_17 0 rfl) (by decide) ?_
      exact K9 _ (if_neg c9).symm
  subst ez9
  refine lv_aload_n hx hb (dd_of dL_law_17 2 rfl) rfl (lv_at hl 5 rfl) ?_
  refine lv_iload hx hb (dd_of dL_law_17 3 rfl) (lv_at hl 1 rfl) ?_
  refine lv_iconst (v := 3) hx hb (dd_of dL_law_17 4 rfl) (by decide) ?_
  refine lv_iadd hx hb (dd_of dL_law_17 5 rfl) ?_
  refine va_iald hx hb hK hX 0 0 rfl rfl hi3 (dd_of dL_law_17 6 rfl) ?_
  rw [ha3]
  refine jt_i (As := [.int a1, .int (if a2 = 0 then (0 : Int32) else 1), .int a3]) (rest := []) (D := D) (yy := yy) (oa := oa) (O := O1) (P := (pV yy h0 an B1 B2 F1 G1 F2 G2 M1)) (M := mW yy A FM GM) (w1 := fun u : jS => mW yy A u.1 u.2) ⟨hx, hb, hml, hown, hts⟩ (qX12_command l D yy A FM GM H.size a1 (if a2 = 0 then (0 : Int32) else 1) a3 hok12) (cwV 3 hts (jgV gw773 gw774 gw775 gw5 gw776) rfl rfl rfl (by decide +kernel) ⟨Nat.le_of_ble_eq_true rfl, Nat.le_of_ble_eq_true rfl⟩) hV hK hD hS hA (va_recv hK (kW_M hV) (ci := 12) (q0 := 0) rfl rfl) rfl hl.1 rfl (Nat.le_of_ble_eq_true rfl) (dd_of dL_law_17 7 rfl) hf (fun x6 u H locs h6 hV hD hS => ?_)
  obtain ⟨FM1, GM1⟩ := u
  have h6 : (x6, (FM1, GM1)) = (gX12_command FM GM a1 (if a2 = 0 then (0 : Int32) else 1) a3) := h6
  have hV : va_P D vwCl (kW yy oa O1 (pV yy h0 an B1 B2 F1 G1 F2 G2 M1) (mW yy A FM1 GM1) sa L xs) H := hV
  have hD : va_D Z (kW yy oa O1 (pV yy h0 an B1 B2 F1 G1 F2 G2 M1) (mW yy A FM1 GM1) sa L xs) := hD
  refine lv_istore (lv' := [(6, .int x6), (5, .int x5), (4, .int i), (3, .ref oa), (2, .ref (A 99)), (1, .ref h0), (0, .ref sa)]) hx hb (dd_of dL_law_17 8 rfl) hl (by decide) rfl (fun ls hl => ?_)
  refine lv_aload_n hx hb (dd_of dL_law_17 9 rfl) rfl (lv_at hl 4 rfl) ?_
  refine jc_i (As := []) (rest := []) (w := mW yy A FM1 GM1) (D := D) (yy := yy) ⟨hx, hb, hml, hown, hts⟩ (qX12_thrown l D yy A FM1 GM1) (cwV 0 hts (jgV gw594 gw595 gw596 gw5 gw597) rfl rfl rfl (by decide +kernel) ⟨Nat.le_of_ble_eq_true rfl, Nat.le_of_ble_eq_true rfl⟩) (kW_M hV) hK (va_recv hK (kW_M hV) (ci := 12) (q0 := 0) rfl rfl) rfl hl.1 rfl (Nat.le_of_ble_eq_true rfl) (dd_of dL_law_17 10 rfl) hf (fun x7 e7 => ?_)
  refine lv_iload hx hb (dd_of dL_law_17 11 rfl) (lv_at hl 1 rfl) ?_
  refine lv_icmp_eq (tgt := 1174) hx hb (dd_of dL_law_17 12 rfl) (by decide) (fun c7 => ?_) (fun c7 => absurd (e7.trans ((hth _ _ _ h6).trans hk5.symm)) c7)
  have how : ((∃ x, (gX11_command F G M a1 (if a2 = 0 then (0 : Int32) else 1) a3) = (0, (x, ((F1, G1), M1)))) ∨ ((gX11_command F G M a1 (if a2 = 0 then (0 : Int32) else 1) a3).1 ≠ 0 ∧ B1 = B ∧ F1 = F ∧ G1 = G ∧ M1 = M)) := by
    rcases hp with ⟨x, h1, _, _⟩ | ⟨h1, _, h2⟩
    · exact Or.inl ⟨x, h1⟩
    · simp only [Prod.mk.injEq] at h2
      exact Or.inr ⟨h1, h2.1.1.1, h2.1.1.2.1, h2.1.1.2.2, h2.1.2⟩
  refine lv_iload hx hb (dd_of dL_law_17 15 rfl) (lv_at hl 1 rfl) ?_
  refine lv_if_ne (tgt := 1191) hx hb (dd_of dL_law_17 16 rfl) (by decide) (fun c8 => ?_) (fun c8 => ?_)
  · skip
    refine lv_goto (tgt := 2515) hx hb (dd_of dL_law_17 26 rfl) (by decide) ?_
    exact kk B1 F1 G1 M1 x6 FM1 GM1 O1 H locs ls how hB1 h6 hV hD hS (lv_sub hl [2, 3, 4, 5, 6] rfl)
  · skip
    have hO := kW_O hV
    have h9 : O1 0 = Int32.toInt64 x6 := by
      rcases hp with ⟨x, h1, _, h2⟩ | ⟨h1, h2, _⟩
      · rw [h2]; exact hval _ _ _ _ h1 h6
      · exfalso; rw [h2] at c8; rcases hcod with hq | hq | hq <;> first | exact h1 hq | (rw [hq] at c8; exact absurd c8 (by decide))
    refine lv_aload_n hx hb (dd_of dL_law_17 17 rfl) rfl (lv_at hl 3 rfl) ?_
    refine lv_iconst (v := 0) hx hb (dd_of dL_law_17 18 rfl) (by decide) ?_
    refine va_lald hx hb hK hO 0 1 rfl rfl (vin_lit (by decide)) (dd_of dL_law_17 19 rfl) ?_
    refine lv_iload hx hb (dd_of dL_law_17 20 rfl) (lv_at hl 0 rfl) ?_
    refine lv_i2l (v := Int32.toInt64 x6) hx hb (dd_of dL_law_17 21 rfl) rfl ?_
    refine jl_eq (tgt := 1191) hx hb (dd_of dL_law_17 22 rfl) (dd_of dL_law_17 23 rfl) (by decide) (fun c10 => ?_) (fun c10 => absurd h9 c10)
    refine lv_goto (tgt := 2515) hx hb (dd_of dL_law_17 26 rfl) (by decide) ?_
    exact kk B1 F1 G1 M1 x6 FM1 GM1 O1 H locs ls how hB1 h6 hV hD hS (lv_sub hl [2, 3, 4, 5, 6] rfl)
set_option maxHeartbeats 4000000 in
set_option maxRecDepth 100000 in
theorem cs_drive {p : Program} {l : Launch} {e : Env} {s : State} {m : MethodId} {args : Array Value} {below : List Frame} {meth : Method} {c : Code} {H : Heap} {locs : List Loc} {cells slots : Nat} {Q : State → Prop} {ls : Array Slot} {c0 : Cond} {D : va_G} {yy : Nat → ClassId} {Z : Nat → Prop} (hl9 : l.stackTraces = false) (oa h0 an sa L : Nat) (i : Int32) (xs : Nat → Int32) (O : Nat → Int64) (A B B2 : Nat → Nat) (F : jF) (G : jG) (F2 : jF) (G2 : jG) (M FM : jF) (GM : jG) (a1 : Int32) (hi1 : vp_in (i + 1) L) (ha1 : xs (Int32.toNatClampNeg (i + 1)) = a1) (a2 : Int32) (hi2 : vp_in (i + 2) L) (ha2 : xs (Int32.toNatClampNeg (i + 2)) = a2) (a3 : Int32) (hi3 : vp_in (i + 3) L) (ha3 : xs (Int32.toNatClampNeg (i + 3)) = a3) (hok : okX11_drive F G M a1 (if a2 = 0 then (0 : Int32) else 1) a3) (hcod : (gX11_drive F G M a1 (if a2 = 0 then (0 : Int32) else 1) a3).1 = 0 ∨ (gX11_drive F G M a1 (if a2 = 0 then (0 : Int32) else 1) a3).1 = 1 ∨ (gX11_drive F G M a1 (if a2 = 0 then (0 : Int32) else 1) a3).1 = 2 ∨ (gX11_drive F G M a1 (if a2 = 0 then (0 : Int32) else 1) a3).1 = 3) (hok12 : okX12_drive FM GM a1 (if a2 = 0 then (0 : Int32) else 1) a3) (hth : ∀ (x6 : Int32) (FM1 : jF) (GM1 : jG), (x6, (FM1, GM1)) = (gX12_drive FM GM a1 (if a2 = 0 then (0 : Int32) else 1) a3) → gX12_thrown FM1 GM1 = wk 1 2 3 (gX11_drive F G M a1 (if a2 = 0 then (0 : Int32) else 1) a3).1) (hval : ∀ x st x6 st6, (gX11_drive F G M a1 (if a2 = 0 then (0 : Int32) else 1) a3) = (0, (x, st)) → (x6, st6) = (gX12_drive FM GM a1 (if a2 = 0 then (0 : Int32) else 1) a3) → Int32.toInt64 x = Int32.toInt64 x6) (hx : p.tables.exec = Jvm.exec) (hb : c.code = cL_law) (hml : c.maxLocals = 8) (hown : s.vm.findClass RL = some m.cls) (hts : ∀ w ∈ c0 :: wsL_law, w.before args s = true) (hV : va_P D vwCl (kW yy oa O (pV yy h0 an B B2 F G F2 G2 M) (mW yy A FM GM) sa L xs) H) (hK : va_K D vwCl (jT yy) s) (hT : jTP Z s) (hN : jNc s) (hD : va_D Z (kW yy oa O (pV yy h0 an B B2 F G F2 G2 M) (mW yy A FM GM) sa L xs)) (hS : va_S Z s.heap H locs) (hA : ∀ q, s.heap.size ≤ q → Z q) (hl : lv_has ls 8 [(4, .int i), (3, .ref oa), (2, .ref (A 99)), (1, .ref h0), (0, .ref sa)]) (hf : cells + 9 ≤ rmLaw.cells ∧ slots + 64 ≤ rmLaw.slots)
    (kk : ∀ (B1 : Nat → Nat) (F1 : jF) (G1 : jG) (M1 : jF) (x6 : Int32) (FM1 : jF) (GM1 : jG) (O1 : Nat → Int64) (H : Heap) (locs : List Loc) (ls : Array Slot), ((∃ x, (gX11_drive F G M a1 (if a2 = 0 then (0 : Int32) else 1) a3) = (0, (x, ((F1, G1), M1)))) ∨ ((gX11_drive F G M a1 (if a2 = 0 then (0 : Int32) else 1) a3).1 ≠ 0 ∧ B1 = B ∧ F1 = F ∧ G1 = G ∧ M1 = M)) → (∀ k, k < 100 → B1 k = B k) → (x6, (FM1, GM1)) = (gX12_drive FM GM a1 (if a2 = 0 then (0 : Int32) else 1) a3) → va_P D vwCl (kW yy oa O1 (pV yy h0 an B1 B2 F1 G1 F2 G2 M1) (mW yy A FM1 GM1) sa L xs) H → va_D Z (kW yy oa O1 (pV yy h0 an B1 B2 F1 G1 F2 G2 M1) (mW yy A FM1 GM1) sa L xs) → va_S Z s.heap H locs → lv_has ls 8 [(4, .int i), (3, .ref oa), (2, .ref (A 99)), (1, .ref h0), (0, .ref sa)] → W p l e rmLaw s m args below meth c H locs (cells + 9) (slots + 64) Q (F0 m 2515 ls [])) : W p l e rmLaw s m args below meth c H locs cells slots Q (F0 m 1194 ls []) := by
  have hX := kW_X hV
  refine lv_aload_n hx hb (dd_of dL_law_17 27 rfl) rfl (lv_at hl 3 rfl) ?_
  refine lv_aload_n hx hb (dd_of dL_law_17 28 rfl) rfl (lv_at hl 4 rfl) ?_
  refine lv_iload hx hb (dd_of dL_law_17 29 rfl) (lv_at hl 0 rfl) ?_
  refine lv_iconst (v := 1) hx hb (dd_of dL_law_17 30 rfl) (by decide) ?_
  refine lv_iadd hx hb (dd_of dL_law_17 31 rfl) ?_
  refine va_iald hx hb hK hX 0 0 rfl rfl hi1 (dd_of dL_law_17 32 rfl) ?_
  rw [ha1]
  refine lv_aload_n hx hb (dd_of dL_law_17 33 rfl) rfl (lv_at hl 4 rfl) ?_
  refine lv_iload hx hb (dd_of dL_law_17 34 rfl) (lv_at hl 0 rfl) ?_
  refine lv_iconst (v := 2) hx hb (dd_of dL_law_17 35 rfl) (by decide) ?_
  refine lv_iadd hx hb (dd_of dL_law_17 36 rfl) ?_
  refine va_iald hx hb hK hX 0 0 rfl rfl hi2 (dd_of dL_law_17 37 rfl) ?_
  rw [ha2]
  refine jn_i (v := (if a2 = 0 then (0 : Int32) else 1)) 1215 [.int a1, .ref h0] (fun z9 ez9 => ?_) (fun K9 => ?_)
  rotate_left
  · refine lv_if_eq (tgt := 1214) hx hb (dd_of dL_law_17 38 rfl) (by decide) (fun c9 => ?_) (fun c9 => ?_)
    · refine lv_iconst (v := 0) hx hb (dd_of dL_law_18 1 rfl) (by decide) ?_
      exact K9 _ (if_pos c9).symm
    · refine lv_iconst (v := 1) hx hb (dd_of dL_law_17 39 rfl) (by decide) ?_
      refine lv_goto (tgt := 1215) hx hb (dd_of dL_law_18 0 rfl) (by decide) ?_
      exact K9 _ (if_neg c9).symm
  subst ez9
  refine lv_aload_n hx hb (dd_of dL_law_18 2 rfl) rfl (lv_at hl 4 rfl) ?_
  refine lv_iload hx hb (dd_of dL_law_18 3 rfl) (lv_at hl 0 rfl) ?_
  refine lv_iconst (v := 3) hx hb (dd_of dL_law_18 4 rfl) (by decide) ?_
  refine lv_iadd hx hb (dd_of dL_law_18 5 rfl) ?_
  refine va_iald hx hb hK hX 0 0 rfl rfl hi3 (dd_of dL_law_18 6 rfl) ?_
  rw [ha3]
  refine lv_aload_n hx hb (dd_of dL_law_18 7 rfl) rfl (lv_at hl 1 rfl) ?_
  refine js_i (As := [.ref h0, .int a1, .int (if a2 = 0 then (0 : Int32) else 1), .int a3, .ref oa]) (rest := []) (D := D) (yy := yy) (w := (kW yy oa O (pV yy h0 an B B2 F G F2 G2 M) (mW yy A FM GM) sa L xs)) (w1 := fun u : (((Nat → Nat) × jS) × jF) × (Nat → Int64) => kW yy oa u.2 (pV yy h0 an u.1.1.1 B2 u.1.1.2.1 u.1.1.2.2 F2 G2 u.1.2) (mW yy A FM GM) sa L xs) ⟨hx, hb, hml, hown, hts⟩ (qL_drive l hl9 D yy oa h0 an O B B2 F G F2 G2 M (mW yy A FM GM ++ [(sa, .inl (yy 0, L, .inl xs))]) H.size a1 (if a2 = 0 then (0 : Int32) else 1) a3 hok hcod) (vx_cwSW 5 hts (jgW gw792 gw793 gw173 gw794) rfl rfl rfl (by decide +kernel) ⟨Nat.le_of_ble_eq_true rfl, Nat.le_of_ble_eq_true rfl⟩) hV hK hT hN hD hS hA rfl hl.1 rfl (Nat.le_of_ble_eq_true rfl) (dd_of dL_law_18 8 rfl) hf (fun x5 u H locs hp hV hD hS => ?_)
  obtain ⟨⟨⟨B1, F1, G1⟩, M1⟩, O1⟩ := u
  obtain ⟨hp, hB1⟩ := hp
  have hB1 : ∀ k, k < 100 → B1 k = B k := hB1
  have hp : ((∃ x, (gX11_drive F G M a1 (if a2 = 0 then (0 : Int32) else 1) a3) = (0, (x, ((F1, G1), M1))) ∧ x5 = 0 ∧ O1 = vp_updL O 0 (Int32.toInt64 x)) ∨ ((gX11_drive F G M a1 (if a2 = 0 then (0 : Int32) else 1) a3).1 ≠ 0 ∧ x5 = wk 1 2 3 (gX11_drive F G M a1 (if a2 = 0 then (0 : Int32) else 1) a3).1 ∧ (((B1, (F1, G1)), M1), O1) = (((B, (F, G)), M), O))) := hp
  have hV : va_P D vwCl (kW yy oa O1 (pV yy h0 an B1 B2 F1 G1 F2 G2 M1) (mW yy A FM GM) sa L xs) H := hV
  have hD : va_D Z (kW yy oa O1 (pV yy h0 an B1 B2 F1 G1 F2 G2 M1) (mW yy A FM GM) sa L xs) := hD
  have hX := kW_X hV
  have hk5 : x5 = wk 1 2 3 (gX11_drive F G M a1 (if a2 = 0 then (0 : Int32) else 1) a3).1 := by
    rcases hp with ⟨x, h1, h2, _⟩ | ⟨_, h2, _⟩
    · rw [h2, h1]; rfl
    · exact h2
  refine lv_istore (lv' := [(5, .int x5), (4, .int i), (3, .ref oa), (2, .ref (A 99)), (1, .ref h0), (0, .ref sa)]) hx hb (dd_of dL_law_18 9 rfl) hl (by decide) rfl (fun ls hl => ?_)
  refine lv_aload_n hx hb (dd_of dL_law_18 10 rfl) rfl (lv_at hl 3 rfl) ?_
  refine lv_aload_n hx hb (dd_of dL_law_18 11 rfl) rfl (lv_at hl 5 rfl) ?_
  refine lv_iload hx hb (dd_of dL_law_18 12 rfl) (lv_at hl 1 rfl) ?_
  refine lv_iconst (v := 1) hx hb (dd_of dL_law_18 13 rfl) (by decide) ?_
  refine lv_iadd hx hb (dd_of dL_law_18 14 rfl) ?_
  refine va_iald hx hb hK hX 0 0 rfl rfl hi1 (dd_of dL_law_18 15 rfl) ?_
  rw [ha1]
  refine lv_aload_n hx hb (dd_of dL_law_18 16 rfl) rfl (lv_at hl 5 rfl) ?_
  refine lv_iload hx hb (dd_of dL_law_18 17 rfl) (lv_at hl 1 rfl) ?_
  refine lv_iconst (v := 2) hx hb (dd_of dL_law_18 18 rfl) (by decide) ?_
  refine lv_iadd hx hb (dd_of dL_law_18 19 rfl) ?_
  refine va_iald hx hb hK hX 0 0 rfl rfl hi2 (dd_of dL_law_18 20 rfl) ?_
  rw [ha2]
  refine jn_i (v := (if a2 = 0 then (0 : Int32) else 1)) 1248 [.int a1, .ref (A 99)] (fun z9 ez9 => ?_) (fun K9 => ?_)
  rotate_left
  · refine lv_if_eq (tgt := 1247) hx hb (dd_of dL_law_18 21 rfl) (by decide) (fun c9 => ?_) (fun c9 => ?_)
    · refine lv_iconst (v := 0) hx hb (dd_of dL_law_18 24 rfl) (by decide) ?_
      exact K9 _ (if_pos c9).symm
    · refine lv_iconst (v := 1) hx hb (dd_of dL_law_18 22 rfl) (by decide) ?_
      refine lv_goto (tgt := 1248) hx hb (dd_of dL_law_18 23 rfl) (by decide) ?_
      exact K9 _ (if_neg c9).symm
  subst ez9
  refine lv_aload_n hx hb (dd_of dL_law_18 25 rfl) rfl (lv_at hl 5 rfl) ?_
  refine lv_iload hx hb (dd_of dL_law_18 26 rfl) (lv_at hl 1 rfl) ?_
  refine lv_iconst (v := 3) hx hb (dd_of dL_law_18 27 rfl) (by decide) ?_
  refine lv_iadd hx hb (dd_of dL_law_18 28 rfl) ?_
  refine va_iald hx hb hK hX 0 0 rfl rfl hi3 (dd_of dL_law_18 29 rfl) ?_
  rw [ha3]
  refine jt_i (As := [.int a1, .int (if a2 = 0 then (0 : Int32) else 1), .int a3]) (rest := []) (D := D) (yy := yy) (oa := oa) (O := O1) (P := (pV yy h0 an B1 B2 F1 G1 F2 G2 M1)) (M := mW yy A FM GM) (w1 := fun u : jS => mW yy A u.1 u.2) ⟨hx, hb, hml, hown, hts⟩ (qX12_drive l D yy A FM GM H.size a1 (if a2 = 0 then (0 : Int32) else 1) a3 hok12) (cwV 3 hts (jgV gw810 gw811 gw812 gw5 gw813) rfl rfl rfl (by decide +kernel) ⟨Nat.le_of_ble_eq_true rfl, Nat.le_of_ble_eq_true rfl⟩) hV hK hD hS hA (va_recv hK (kW_M hV) (ci := 12) (q0 := 0) rfl rfl) rfl hl.1 rfl (Nat.le_of_ble_eq_true rfl) (dd_of dL_law_18 30 rfl) hf (fun x6 u H locs h6 hV hD hS => ?_)
  obtain ⟨FM1, GM1⟩ := u
  have h6 : (x6, (FM1, GM1)) = (gX12_drive FM GM a1 (if a2 = 0 then (0 : Int32) else 1) a3) := h6
  have hV : va_P D vwCl (kW yy oa O1 (pV yy h0 an B1 B2 F1 G1 F2 G2 M1) (mW yy A FM1 GM1) sa L xs) H := hV
  have hD : va_D Z (kW yy oa O1 (pV yy h0 an B1 B2 F1 G1 F2 G2 M1) (mW yy A FM1 GM1) sa L xs) := hD
  refine lv_istore (lv' := [(6, .int x6), (5, .int x5), (4, .int i), (3, .ref oa), (2, .ref (A 99)), (1, .ref h0), (0, .ref sa)]) hx hb (dd_of dL_law_18 31 rfl) hl (by decide) rfl (fun ls hl => ?_)
  refine lv_aload_n hx hb (dd_of dL_law_18 32 rfl) rfl (lv_at hl 4 rfl) ?_
  refine jc_i (As := []) (rest := []) (w := mW yy A FM1 GM1) (D := D) (yy := yy) ⟨hx, hb, hml, hown, hts⟩ (qX12_thrown l D yy A FM1 GM1) (cwV 0 hts (jgV gw594 gw595 gw596 gw5 gw597) rfl rfl rfl (by decide +kernel) ⟨Nat.le_of_ble_eq_true rfl, Nat.le_of_ble_eq_true rfl⟩) (kW_M hV) hK (va_recv hK (kW_M hV) (ci := 12) (q0 := 0) rfl rfl) rfl hl.1 rfl (Nat.le_of_ble_eq_true rfl) (dd_of dL_law_18 33 rfl) hf (fun x7 e7 => ?_)
  refine lv_iload hx hb (dd_of dL_law_18 34 rfl) (lv_at hl 1 rfl) ?_
  refine lv_icmp_eq (tgt := 1270) hx hb (dd_of dL_law_18 35 rfl) (by decide) (fun c7 => ?_) (fun c7 => absurd (e7.trans ((hth _ _ _ h6).trans hk5.symm)) c7)
  have how : ((∃ x, (gX11_drive F G M a1 (if a2 = 0 then (0 : Int32) else 1) a3) = (0, (x, ((F1, G1), M1)))) ∨ ((gX11_drive F G M a1 (if a2 = 0 then (0 : Int32) else 1) a3).1 ≠ 0 ∧ B1 = B ∧ F1 = F ∧ G1 = G ∧ M1 = M)) := by
    rcases hp with ⟨x, h1, _, _⟩ | ⟨h1, _, h2⟩
    · exact Or.inl ⟨x, h1⟩
    · simp only [Prod.mk.injEq] at h2
      exact Or.inr ⟨h1, h2.1.1.1, h2.1.1.2.1, h2.1.1.2.2, h2.1.2⟩
  refine lv_iload hx hb (dd_of dL_law_18 38 rfl) (lv_at hl 1 rfl) ?_
  refine lv_if_ne (tgt := 1287) hx hb (dd_of dL_law_18 39 rfl) (by decide) (fun c8 => ?_) (fun c8 => ?_)
  · skip
    refine lv_goto (tgt := 2515) hx hb (dd_of dL_law_19 9 rfl) (by decide) ?_
    exact kk B1 F1 G1 M1 x6 FM1 GM1 O1 H locs ls how hB1 h6 hV hD hS (lv_sub hl [2, 3, 4, 5, 6] rfl)
  · skip
    have hO := kW_O hV
    have h9 : O1 0 = Int32.toInt64 x6 := by
      rcases hp with ⟨x, h1, _, h2⟩ | ⟨h1, h2, _⟩
      · rw [h2]; exact hval _ _ _ _ h1 h6
      · exfalso; rw [h2] at c8; rcases hcod with hq | hq | hq | hq <;> first | exact h1 hq | (rw [hq] at c8; exact absurd c8 (by decide))
    refine lv_aload_n hx hb (dd_of dL_law_19 0 rfl) rfl (lv_at hl 3 rfl) ?_
    refine lv_iconst (v := 0) hx hb (dd_of dL_law_19 1 rfl) (by decide) ?_
    refine va_lald hx hb hK hO 0 1 rfl rfl (vin_lit (by decide)) (dd_of dL_law_19 2 rfl) ?_
    refine lv_iload hx hb (dd_of dL_law_19 3 rfl) (lv_at hl 0 rfl) ?_
    refine lv_i2l (v := Int32.toInt64 x6) hx hb (dd_of dL_law_19 4 rfl) rfl ?_
    refine jl_eq (tgt := 1287) hx hb (dd_of dL_law_19 5 rfl) (dd_of dL_law_19 6 rfl) (by decide) (fun c10 => ?_) (fun c10 => absurd h9 c10)
    refine lv_goto (tgt := 2515) hx hb (dd_of dL_law_19 9 rfl) (by decide) ?_
    exact kk B1 F1 G1 M1 x6 FM1 GM1 O1 H locs ls how hB1 h6 hV hD hS (lv_sub hl [2, 3, 4, 5, 6] rfl)
set_option maxHeartbeats 4000000 in
set_option maxRecDepth 100000 in
theorem cs_mend {p : Program} {l : Launch} {e : Env} {s : State} {m : MethodId} {args : Array Value} {below : List Frame} {meth : Method} {c : Code} {H : Heap} {locs : List Loc} {cells slots : Nat} {Q : State → Prop} {ls : Array Slot} {c0 : Cond} {D : va_G} {yy : Nat → ClassId} {Z : Nat → Prop} (hl9 : l.stackTraces = false) (oa h0 an sa L : Nat) (i : Int32) (xs : Nat → Int32) (O : Nat → Int64) (A B B2 : Nat → Nat) (F : jF) (G : jG) (F2 : jF) (G2 : jG) (M FM : jF) (GM : jG) (a1 : Int32) (hi1 : vp_in (i + 1) L) (ha1 : xs (Int32.toNatClampNeg (i + 1)) = a1) (hok : okX11_mend F G M a1) (hcod : (gX11_mend F G M a1).1 = 0 ∨ (gX11_mend F G M a1).1 = 1 ∨ (gX11_mend F G M a1).1 = 3) (hok12 : okX12_mend FM GM a1) (hth : ∀ (x6 : Int32) (FM1 : jF) (GM1 : jG), (x6, (FM1, GM1)) = (gX12_mend FM GM a1) → gX12_thrown FM1 GM1 = wk 1 3 9 (gX11_mend F G M a1).1) (hval : ∀ x st x6 st6, (gX11_mend F G M a1) = (0, (x, st)) → (x6, st6) = (gX12_mend FM GM a1) → Int32.toInt64 x = Int32.toInt64 x6) (hx : p.tables.exec = Jvm.exec) (hb : c.code = cL_law) (hml : c.maxLocals = 8) (hown : s.vm.findClass RL = some m.cls) (hts : ∀ w ∈ c0 :: wsL_law, w.before args s = true) (hV : va_P D vwCl (kW yy oa O (pV yy h0 an B B2 F G F2 G2 M) (mW yy A FM GM) sa L xs) H) (hK : va_K D vwCl (jT yy) s) (hT : jTP Z s) (hN : jNc s) (hD : va_D Z (kW yy oa O (pV yy h0 an B B2 F G F2 G2 M) (mW yy A FM GM) sa L xs)) (hS : va_S Z s.heap H locs) (hA : ∀ q, s.heap.size ≤ q → Z q) (hl : lv_has ls 8 [(4, .int i), (3, .ref oa), (2, .ref (A 99)), (1, .ref h0), (0, .ref sa)]) (hf : cells + 9 ≤ rmLaw.cells ∧ slots + 64 ≤ rmLaw.slots)
    (kk : ∀ (B1 : Nat → Nat) (F1 : jF) (G1 : jG) (M1 : jF) (x6 : Int32) (FM1 : jF) (GM1 : jG) (O1 : Nat → Int64) (H : Heap) (locs : List Loc) (ls : Array Slot), ((∃ x, (gX11_mend F G M a1) = (0, (x, ((F1, G1), M1)))) ∨ ((gX11_mend F G M a1).1 ≠ 0 ∧ B1 = B ∧ F1 = F ∧ G1 = G ∧ M1 = M)) → (∀ k, k < 100 → B1 k = B k) → (x6, (FM1, GM1)) = (gX12_mend FM GM a1) → va_P D vwCl (kW yy oa O1 (pV yy h0 an B1 B2 F1 G1 F2 G2 M1) (mW yy A FM1 GM1) sa L xs) H → va_D Z (kW yy oa O1 (pV yy h0 an B1 B2 F1 G1 F2 G2 M1) (mW yy A FM1 GM1) sa L xs) → va_S Z s.heap H locs → lv_has ls 8 [(4, .int i), (3, .ref oa), (2, .ref (A 99)), (1, .ref h0), (0, .ref sa)] → W p l e rmLaw s m args below meth c H locs (cells + 9) (slots + 64) Q (F0 m 2515 ls [])) : W p l e rmLaw s m args below meth c H locs cells slots Q (F0 m 1290 ls []) := by
  have hX := kW_X hV
  refine lv_aload_n hx hb (dd_of dL_law_19 10 rfl) rfl (lv_at hl 3 rfl) ?_
  refine lv_aload_n hx hb (dd_of dL_law_19 11 rfl) rfl (lv_at hl 4 rfl) ?_
  refine lv_iload hx hb (dd_of dL_law_19 12 rfl) (lv_at hl 0 rfl) ?_
  refine lv_iconst (v := 1) hx hb (dd_of dL_law_19 13 rfl) (by decide) ?_
  refine lv_iadd hx hb (dd_of dL_law_19 14 rfl) ?_
  refine va_iald hx hb hK hX 0 0 rfl rfl hi1 (dd_of dL_law_19 15 rfl) ?_
  rw [ha1]
  refine lv_aload_n hx hb (dd_of dL_law_19 16 rfl) rfl (lv_at hl 1 rfl) ?_
  refine js_i (As := [.ref h0, .int a1, .ref oa]) (rest := []) (D := D) (yy := yy) (w := (kW yy oa O (pV yy h0 an B B2 F G F2 G2 M) (mW yy A FM GM) sa L xs)) (w1 := fun u : (((Nat → Nat) × jS) × jF) × (Nat → Int64) => kW yy oa u.2 (pV yy h0 an u.1.1.1 B2 u.1.1.2.1 u.1.1.2.2 F2 G2 u.1.2) (mW yy A FM GM) sa L xs) ⟨hx, hb, hml, hown, hts⟩ (qL_mend l hl9 D yy oa h0 an O B B2 F G F2 G2 M (mW yy A FM GM ++ [(sa, .inl (yy 0, L, .inl xs))]) H.size a1 hok hcod) (vx_cwSW 3 hts (jgW gw815 gw816 gw173 gw817) rfl rfl rfl (by decide +kernel) ⟨Nat.le_of_ble_eq_true rfl, Nat.le_of_ble_eq_true rfl⟩) hV hK hT hN hD hS hA rfl hl.1 rfl (Nat.le_of_ble_eq_true rfl) (dd_of dL_law_19 17 rfl) hf (fun x5 u H locs hp hV hD hS => ?_)
  obtain ⟨⟨⟨B1, F1, G1⟩, M1⟩, O1⟩ := u
  obtain ⟨hp, hB1⟩ := hp
  have hB1 : ∀ k, k < 100 → B1 k = B k := hB1
  have hp : ((∃ x, (gX11_mend F G M a1) = (0, (x, ((F1, G1), M1))) ∧ x5 = 0 ∧ O1 = vp_updL O 0 (Int32.toInt64 x)) ∨ ((gX11_mend F G M a1).1 ≠ 0 ∧ x5 = wk 1 3 9 (gX11_mend F G M a1).1 ∧ (((B1, (F1, G1)), M1), O1) = (((B, (F, G)), M), O))) := hp
  have hV : va_P D vwCl (kW yy oa O1 (pV yy h0 an B1 B2 F1 G1 F2 G2 M1) (mW yy A FM GM) sa L xs) H := hV
  have hD : va_D Z (kW yy oa O1 (pV yy h0 an B1 B2 F1 G1 F2 G2 M1) (mW yy A FM GM) sa L xs) := hD
  have hX := kW_X hV
  have hk5 : x5 = wk 1 3 9 (gX11_mend F G M a1).1 := by
    rcases hp with ⟨x, h1, h2, _⟩ | ⟨_, h2, _⟩
    · rw [h2, h1]; rfl
    · exact h2
  refine lv_istore (lv' := [(5, .int x5), (4, .int i), (3, .ref oa), (2, .ref (A 99)), (1, .ref h0), (0, .ref sa)]) hx hb (dd_of dL_law_19 18 rfl) hl (by decide) rfl (fun ls hl => ?_)
  refine lv_aload_n hx hb (dd_of dL_law_19 19 rfl) rfl (lv_at hl 3 rfl) ?_
  refine lv_aload_n hx hb (dd_of dL_law_19 20 rfl) rfl (lv_at hl 5 rfl) ?_
  refine lv_iload hx hb (dd_of dL_law_19 21 rfl) (lv_at hl 1 rfl) ?_
  refine lv_iconst (v := 1) hx hb (dd_of dL_law_19 22 rfl) (by decide) ?_
  refine lv_iadd hx hb (dd_of dL_law_19 23 rfl) ?_
  refine va_iald hx hb hK hX 0 0 rfl rfl hi1 (dd_of dL_law_19 24 rfl) ?_
  rw [ha1]
  refine jt_i (As := [.int a1]) (rest := []) (D := D) (yy := yy) (oa := oa) (O := O1) (P := (pV yy h0 an B1 B2 F1 G1 F2 G2 M1)) (M := mW yy A FM GM) (w1 := fun u : jS => mW yy A u.1 u.2) ⟨hx, hb, hml, hown, hts⟩ (qX12_mend l D yy A FM GM H.size a1 hok12) (cwV 1 hts (jgV gw822 gw823 gw824 gw5 gw825) rfl rfl rfl (by decide +kernel) ⟨Nat.le_of_ble_eq_true rfl, Nat.le_of_ble_eq_true rfl⟩) hV hK hD hS hA (va_recv hK (kW_M hV) (ci := 12) (q0 := 0) rfl rfl) rfl hl.1 rfl (Nat.le_of_ble_eq_true rfl) (dd_of dL_law_19 25 rfl) hf (fun x6 u H locs h6 hV hD hS => ?_)
  obtain ⟨FM1, GM1⟩ := u
  have h6 : (x6, (FM1, GM1)) = (gX12_mend FM GM a1) := h6
  have hV : va_P D vwCl (kW yy oa O1 (pV yy h0 an B1 B2 F1 G1 F2 G2 M1) (mW yy A FM1 GM1) sa L xs) H := hV
  have hD : va_D Z (kW yy oa O1 (pV yy h0 an B1 B2 F1 G1 F2 G2 M1) (mW yy A FM1 GM1) sa L xs) := hD
  refine lv_istore (lv' := [(6, .int x6), (5, .int x5), (4, .int i), (3, .ref oa), (2, .ref (A 99)), (1, .ref h0), (0, .ref sa)]) hx hb (dd_of dL_law_19 26 rfl) hl (by decide) rfl (fun ls hl => ?_)
  refine lv_aload_n hx hb (dd_of dL_law_19 27 rfl) rfl (lv_at hl 4 rfl) ?_
  refine jc_i (As := []) (rest := []) (w := mW yy A FM1 GM1) (D := D) (yy := yy) ⟨hx, hb, hml, hown, hts⟩ (qX12_thrown l D yy A FM1 GM1) (cwV 0 hts (jgV gw594 gw595 gw596 gw5 gw597) rfl rfl rfl (by decide +kernel) ⟨Nat.le_of_ble_eq_true rfl, Nat.le_of_ble_eq_true rfl⟩) (kW_M hV) hK (va_recv hK (kW_M hV) (ci := 12) (q0 := 0) rfl rfl) rfl hl.1 rfl (Nat.le_of_ble_eq_true rfl) (dd_of dL_law_19 28 rfl) hf (fun x7 e7 => ?_)
  refine lv_iload hx hb (dd_of dL_law_19 29 rfl) (lv_at hl 1 rfl) ?_
  refine lv_icmp_eq (tgt := 1326) hx hb (dd_of dL_law_19 30 rfl) (by decide) (fun c7 => ?_) (fun c7 => absurd (e7.trans ((hth _ _ _ h6).trans hk5.symm)) c7)
  have how : ((∃ x, (gX11_mend F G M a1) = (0, (x, ((F1, G1), M1)))) ∨ ((gX11_mend F G M a1).1 ≠ 0 ∧ B1 = B ∧ F1 = F ∧ G1 = G ∧ M1 = M)) := by
    rcases hp with ⟨x, h1, _, _⟩ | ⟨h1, _, h2⟩
    · exact Or.inl ⟨x, h1⟩
    · simp only [Prod.mk.injEq] at h2
      exact Or.inr ⟨h1, h2.1.1.1, h2.1.1.2.1, h2.1.1.2.2, h2.1.2⟩
  refine lv_iload hx hb (dd_of dL_law_19 33 rfl) (lv_at hl 1 rfl) ?_
  refine lv_if_ne (tgt := 1343) hx hb (dd_of dL_law_19 34 rfl) (by decide) (fun c8 => ?_) (fun c8 => ?_)
  · skip
    refine lv_goto (tgt := 2515) hx hb (dd_of dL_law_20 4 rfl) (by decide) ?_
    exact kk B1 F1 G1 M1 x6 FM1 GM1 O1 H locs ls how hB1 h6 hV hD hS (lv_sub hl [2, 3, 4, 5, 6] rfl)
  · skip
    have hO := kW_O hV
    have h9 : O1 0 = Int32.toInt64 x6 := by
      rcases hp with ⟨x, h1, _, h2⟩ | ⟨h1, h2, _⟩
      · rw [h2]; exact hval _ _ _ _ h1 h6
      · exfalso; rw [h2] at c8; rcases hcod with hq | hq | hq <;> first | exact h1 hq | (rw [hq] at c8; exact absurd c8 (by decide))
    refine lv_aload_n hx hb (dd_of dL_law_19 35 rfl) rfl (lv_at hl 3 rfl) ?_
    refine lv_iconst (v := 0) hx hb (dd_of dL_law_19 36 rfl) (by decide) ?_
    refine va_lald hx hb hK hO 0 1 rfl rfl (vin_lit (by decide)) (dd_of dL_law_19 37 rfl) ?_
    refine lv_iload hx hb (dd_of dL_law_19 38 rfl) (lv_at hl 0 rfl) ?_
    refine lv_i2l (v := Int32.toInt64 x6) hx hb (dd_of dL_law_19 39 rfl) rfl ?_
    refine jl_eq (tgt := 1343) hx hb (dd_of dL_law_20 0 rfl) (dd_of dL_law_20 1 rfl) (by decide) (fun c10 => ?_) (fun c10 => absurd h9 c10)
    refine lv_goto (tgt := 2515) hx hb (dd_of dL_law_20 4 rfl) (by decide) ?_
    exact kk B1 F1 G1 M1 x6 FM1 GM1 O1 H locs ls how hB1 h6 hV hD hS (lv_sub hl [2, 3, 4, 5, 6] rfl)
set_option maxHeartbeats 4000000 in
set_option maxRecDepth 100000 in
theorem cs_send {p : Program} {l : Launch} {e : Env} {s : State} {m : MethodId} {args : Array Value} {below : List Frame} {meth : Method} {c : Code} {H : Heap} {locs : List Loc} {cells slots : Nat} {Q : State → Prop} {ls : Array Slot} {c0 : Cond} {D : va_G} {yy : Nat → ClassId} {Z : Nat → Prop} (hl9 : l.stackTraces = false) (oa h0 an sa L : Nat) (i : Int32) (xs : Nat → Int32) (O : Nat → Int64) (A B B2 : Nat → Nat) (F : jF) (G : jG) (F2 : jF) (G2 : jG) (M FM : jF) (GM : jG) (a1 : Int32) (hi1 : vp_in (i + 1) L) (ha1 : xs (Int32.toNatClampNeg (i + 1)) = a1) (a2 : Int32) (hi2 : vp_in (i + 2) L) (ha2 : xs (Int32.toNatClampNeg (i + 2)) = a2) (a3 : Int32) (hi3 : vp_in (i + 3) L) (ha3 : xs (Int32.toNatClampNeg (i + 3)) = a3) (hok : okX11_send F G M a1 a2 a3) (hcod : (gX11_send F G M a1 a2 a3).1 = 0 ∨ (gX11_send F G M a1 a2 a3).1 = 1 ∨ (gX11_send F G M a1 a2 a3).1 = 2 ∨ (gX11_send F G M a1 a2 a3).1 = 3) (hok12 : okX12_send FM GM a1 a2 a3) (hth : ∀ (x6 : Int32) (FM1 : jF) (GM1 : jG), (x6, (FM1, GM1)) = (gX12_send FM GM a1 a2 a3) → gX12_thrown FM1 GM1 = wk 1 2 3 (gX11_send F G M a1 a2 a3).1) (hval : ∀ x st x6 st6, (gX11_send F G M a1 a2 a3) = (0, (x, st)) → (x6, st6) = (gX12_send FM GM a1 a2 a3) → Int32.toInt64 x = Int32.toInt64 x6) (hx : p.tables.exec = Jvm.exec) (hb : c.code = cL_law) (hml : c.maxLocals = 8) (hown : s.vm.findClass RL = some m.cls) (hts : ∀ w ∈ c0 :: wsL_law, w.before args s = true) (hV : va_P D vwCl (kW yy oa O (pV yy h0 an B B2 F G F2 G2 M) (mW yy A FM GM) sa L xs) H) (hK : va_K D vwCl (jT yy) s) (hT : jTP Z s) (hN : jNc s) (hD : va_D Z (kW yy oa O (pV yy h0 an B B2 F G F2 G2 M) (mW yy A FM GM) sa L xs)) (hS : va_S Z s.heap H locs) (hA : ∀ q, s.heap.size ≤ q → Z q) (hl : lv_has ls 8 [(4, .int i), (3, .ref oa), (2, .ref (A 99)), (1, .ref h0), (0, .ref sa)]) (hf : cells + 9 ≤ rmLaw.cells ∧ slots + 64 ≤ rmLaw.slots)
    (kk : ∀ (B1 : Nat → Nat) (F1 : jF) (G1 : jG) (M1 : jF) (x6 : Int32) (FM1 : jF) (GM1 : jG) (O1 : Nat → Int64) (H : Heap) (locs : List Loc) (ls : Array Slot), ((∃ x, (gX11_send F G M a1 a2 a3) = (0, (x, ((F1, G1), M1)))) ∨ ((gX11_send F G M a1 a2 a3).1 ≠ 0 ∧ B1 = B ∧ F1 = F ∧ G1 = G ∧ M1 = M)) → (∀ k, k < 100 → B1 k = B k) → (x6, (FM1, GM1)) = (gX12_send FM GM a1 a2 a3) → va_P D vwCl (kW yy oa O1 (pV yy h0 an B1 B2 F1 G1 F2 G2 M1) (mW yy A FM1 GM1) sa L xs) H → va_D Z (kW yy oa O1 (pV yy h0 an B1 B2 F1 G1 F2 G2 M1) (mW yy A FM1 GM1) sa L xs) → va_S Z s.heap H locs → lv_has ls 8 [(4, .int i), (3, .ref oa), (2, .ref (A 99)), (1, .ref h0), (0, .ref sa)] → W p l e rmLaw s m args below meth c H locs (cells + 9) (slots + 64) Q (F0 m 2515 ls [])) : W p l e rmLaw s m args below meth c H locs cells slots Q (F0 m 1346 ls []) := by
  have hX := kW_X hV
  refine lv_aload_n hx hb (dd_of dL_law_20 5 rfl) rfl (lv_at hl 3 rfl) ?_
  refine lv_aload_n hx hb (dd_of dL_law_20 6 rfl) rfl (lv_at hl 4 rfl) ?_
  refine lv_iload hx hb (dd_of dL_law_20 7 rfl) (lv_at hl 0 rfl) ?_
  refine lv_iconst (v := 1) hx hb (dd_of dL_law_20 8 rfl) (by decide) ?_
  refine lv_iadd hx hb (dd_of dL_law_20 9 rfl) ?_
  refine va_iald hx hb hK hX 0 0 rfl rfl hi1 (dd_of dL_law_20 10 rfl) ?_
  rw [ha1]
  refine lv_aload_n hx hb (dd_of dL_law_20 11 rfl) rfl (lv_at hl 4 rfl) ?_
  refine lv_iload hx hb (dd_of dL_law_20 12 rfl) (lv_at hl 0 rfl) ?_
  refine lv_iconst (v := 2) hx hb (dd_of dL_law_20 13 rfl) (by decide) ?_
  refine lv_iadd hx hb (dd_of dL_law_20 14 rfl) ?_
  refine va_iald hx hb hK hX 0 0 rfl rfl hi2 (dd_of dL_law_20 15 rfl) ?_
  rw [ha2]
  refine lv_aload_n hx hb (dd_of dL_law_20 16 rfl) rfl (lv_at hl 4 rfl) ?_
  refine lv_iload hx hb (dd_of dL_law_20 17 rfl) (lv_at hl 0 rfl) ?_
  refine lv_iconst (v := 3) hx hb (dd_of dL_law_20 18 rfl) (by decide) ?_
  refine lv_iadd hx hb (dd_of dL_law_20 19 rfl) ?_
  refine va_iald hx hb hK hX 0 0 rfl rfl hi3 (dd_of dL_law_20 20 rfl) ?_
  rw [ha3]
  refine lv_aload_n hx hb (dd_of dL_law_20 21 rfl) rfl (lv_at hl 1 rfl) ?_
  refine js_i (As := [.ref h0, .int a1, .int a2, .int a3, .ref oa]) (rest := []) (D := D) (yy := yy) (w := (kW yy oa O (pV yy h0 an B B2 F G F2 G2 M) (mW yy A FM GM) sa L xs)) (w1 := fun u : (((Nat → Nat) × jS) × jF) × (Nat → Int64) => kW yy oa u.2 (pV yy h0 an u.1.1.1 B2 u.1.1.2.1 u.1.1.2.2 F2 G2 u.1.2) (mW yy A FM GM) sa L xs) ⟨hx, hb, hml, hown, hts⟩ (qL_send l hl9 D yy oa h0 an O B B2 F G F2 G2 M (mW yy A FM GM ++ [(sa, .inl (yy 0, L, .inl xs))]) H.size a1 a2 a3 hok hcod) (vx_cwSW 5 hts (jgW gw827 gw828 gw173 gw829) rfl rfl rfl (by decide +kernel) ⟨Nat.le_of_ble_eq_true rfl, Nat.le_of_ble_eq_true rfl⟩) hV hK hT hN hD hS hA rfl hl.1 rfl (Nat.le_of_ble_eq_true rfl) (dd_of dL_law_20 22 rfl) hf (fun x5 u H locs hp hV hD hS => ?_)
  obtain ⟨⟨⟨B1, F1, G1⟩, M1⟩, O1⟩ := u
  obtain ⟨hp, hB1⟩ := hp
  have hB1 : ∀ k, k < 100 → B1 k = B k := hB1
  have hp : ((∃ x, (gX11_send F G M a1 a2 a3) = (0, (x, ((F1, G1), M1))) ∧ x5 = 0 ∧ O1 = vp_updL O 0 (Int32.toInt64 x)) ∨ ((gX11_send F G M a1 a2 a3).1 ≠ 0 ∧ x5 = wk 1 2 3 (gX11_send F G M a1 a2 a3).1 ∧ (((B1, (F1, G1)), M1), O1) = (((B, (F, G)), M), O))) := hp
  have hV : va_P D vwCl (kW yy oa O1 (pV yy h0 an B1 B2 F1 G1 F2 G2 M1) (mW yy A FM GM) sa L xs) H := hV
  have hD : va_D Z (kW yy oa O1 (pV yy h0 an B1 B2 F1 G1 F2 G2 M1) (mW yy A FM GM) sa L xs) := hD
  have hX := kW_X hV
  have hk5 : x5 = wk 1 2 3 (gX11_send F G M a1 a2 a3).1 := by
    rcases hp with ⟨x, h1, h2, _⟩ | ⟨_, h2, _⟩
    · rw [h2, h1]; rfl
    · exact h2
  refine lv_istore (lv' := [(5, .int x5), (4, .int i), (3, .ref oa), (2, .ref (A 99)), (1, .ref h0), (0, .ref sa)]) hx hb (dd_of dL_law_20 23 rfl) hl (by decide) rfl (fun ls hl => ?_)
  refine lv_aload_n hx hb (dd_of dL_law_20 24 rfl) rfl (lv_at hl 3 rfl) ?_
  refine lv_aload_n hx hb (dd_of dL_law_20 25 rfl) rfl (lv_at hl 5 rfl) ?_
  refine lv_iload hx hb (dd_of dL_law_20 26 rfl) (lv_at hl 1 rfl) ?_
  refine lv_iconst (v := 1) hx hb (dd_of dL_law_20 27 rfl) (by decide) ?_
  refine lv_iadd hx hb (dd_of dL_law_20 28 rfl) ?_
  refine va_iald hx hb hK hX 0 0 rfl rfl hi1 (dd_of dL_law_20 29 rfl) ?_
  rw [ha1]
  refine lv_aload_n hx hb (dd_of dL_law_20 30 rfl) rfl (lv_at hl 5 rfl) ?_
  refine lv_iload hx hb (dd_of dL_law_20 31 rfl) (lv_at hl 1 rfl) ?_
  refine lv_iconst (v := 2) hx hb (dd_of dL_law_20 32 rfl) (by decide) ?_
  refine lv_iadd hx hb (dd_of dL_law_20 33 rfl) ?_
  refine va_iald hx hb hK hX 0 0 rfl rfl hi2 (dd_of dL_law_20 34 rfl) ?_
  rw [ha2]
  refine lv_aload_n hx hb (dd_of dL_law_20 35 rfl) rfl (lv_at hl 5 rfl) ?_
  refine lv_iload hx hb (dd_of dL_law_20 36 rfl) (lv_at hl 1 rfl) ?_
  refine lv_iconst (v := 3) hx hb (dd_of dL_law_20 37 rfl) (by decide) ?_
  refine lv_iadd hx hb (dd_of dL_law_20 38 rfl) ?_
  refine va_iald hx hb hK hX 0 0 rfl rfl hi3 (dd_of dL_law_20 39 rfl) ?_
  rw [ha3]
  refine jt_i (As := [.int a1, .int a2, .int a3]) (rest := []) (D := D) (yy := yy) (oa := oa) (O := O1) (P := (pV yy h0 an B1 B2 F1 G1 F2 G2 M1)) (M := mW yy A FM GM) (w1 := fun u : jS => mW yy A u.1 u.2) ⟨hx, hb, hml, hown, hts⟩ (qX12_send l D yy A FM GM H.size a1 a2 a3 hok12) (cwV 3 hts (jgV gw844 gw845 gw846 gw5 gw847) rfl rfl rfl (by decide +kernel) ⟨Nat.le_of_ble_eq_true rfl, Nat.le_of_ble_eq_true rfl⟩) hV hK hD hS hA (va_recv hK (kW_M hV) (ci := 12) (q0 := 0) rfl rfl) rfl hl.1 rfl (Nat.le_of_ble_eq_true rfl) (dd_of dL_law_21 0 rfl) hf (fun x6 u H locs h6 hV hD hS => ?_)
  obtain ⟨FM1, GM1⟩ := u
  have h6 : (x6, (FM1, GM1)) = (gX12_send FM GM a1 a2 a3) := h6
  have hV : va_P D vwCl (kW yy oa O1 (pV yy h0 an B1 B2 F1 G1 F2 G2 M1) (mW yy A FM1 GM1) sa L xs) H := hV
  have hD : va_D Z (kW yy oa O1 (pV yy h0 an B1 B2 F1 G1 F2 G2 M1) (mW yy A FM1 GM1) sa L xs) := hD
  refine lv_istore (lv' := [(6, .int x6), (5, .int x5), (4, .int i), (3, .ref oa), (2, .ref (A 99)), (1, .ref h0), (0, .ref sa)]) hx hb (dd_of dL_law_21 1 rfl) hl (by decide) rfl (fun ls hl => ?_)
  refine lv_aload_n hx hb (dd_of dL_law_21 2 rfl) rfl (lv_at hl 4 rfl) ?_
  refine jc_i (As := []) (rest := []) (w := mW yy A FM1 GM1) (D := D) (yy := yy) ⟨hx, hb, hml, hown, hts⟩ (qX12_thrown l D yy A FM1 GM1) (cwV 0 hts (jgV gw594 gw595 gw596 gw5 gw597) rfl rfl rfl (by decide +kernel) ⟨Nat.le_of_ble_eq_true rfl, Nat.le_of_ble_eq_true rfl⟩) (kW_M hV) hK (va_recv hK (kW_M hV) (ci := 12) (q0 := 0) rfl rfl) rfl hl.1 rfl (Nat.le_of_ble_eq_true rfl) (dd_of dL_law_21 3 rfl) hf (fun x7 e7 => ?_)
  refine lv_iload hx hb (dd_of dL_law_21 4 rfl) (lv_at hl 1 rfl) ?_
  refine lv_icmp_eq (tgt := 1406) hx hb (dd_of dL_law_21 5 rfl) (by decide) (fun c7 => ?_) (fun c7 => absurd (e7.trans ((hth _ _ _ h6).trans hk5.symm)) c7)
  have how : ((∃ x, (gX11_send F G M a1 a2 a3) = (0, (x, ((F1, G1), M1)))) ∨ ((gX11_send F G M a1 a2 a3).1 ≠ 0 ∧ B1 = B ∧ F1 = F ∧ G1 = G ∧ M1 = M)) := by
    rcases hp with ⟨x, h1, _, _⟩ | ⟨h1, _, h2⟩
    · exact Or.inl ⟨x, h1⟩
    · simp only [Prod.mk.injEq] at h2
      exact Or.inr ⟨h1, h2.1.1.1, h2.1.1.2.1, h2.1.1.2.2, h2.1.2⟩
  refine lv_iload hx hb (dd_of dL_law_21 8 rfl) (lv_at hl 1 rfl) ?_
  refine lv_if_ne (tgt := 1423) hx hb (dd_of dL_law_21 9 rfl) (by decide) (fun c8 => ?_) (fun c8 => ?_)
  · skip
    refine lv_goto (tgt := 2515) hx hb (dd_of dL_law_21 19 rfl) (by decide) ?_
    exact kk B1 F1 G1 M1 x6 FM1 GM1 O1 H locs ls how hB1 h6 hV hD hS (lv_sub hl [2, 3, 4, 5, 6] rfl)
  · skip
    have hO := kW_O hV
    have h9 : O1 0 = Int32.toInt64 x6 := by
      rcases hp with ⟨x, h1, _, h2⟩ | ⟨h1, h2, _⟩
      · rw [h2]; exact hval _ _ _ _ h1 h6
      · exfalso; rw [h2] at c8; rcases hcod with hq | hq | hq | hq <;> first | exact h1 hq | (rw [hq] at c8; exact absurd c8 (by decide))
    refine lv_aload_n hx hb (dd_of dL_law_21 10 rfl) rfl (lv_at hl 3 rfl) ?_
    refine lv_iconst (v := 0) hx hb (dd_of dL_law_21 11 rfl) (by decide) ?_
    refine va_lald hx hb hK hO 0 1 rfl rfl (vin_lit (by decide)) (dd_of dL_law_21 12 rfl) ?_
    refine lv_iload hx hb (dd_of dL_law_21 13 rfl) (lv_at hl 0 rfl) ?_
    refine lv_i2l (v := Int32.toInt64 x6) hx hb (dd_of dL_law_21 14 rfl) rfl ?_
    refine jl_eq (tgt := 1423) hx hb (dd_of dL_law_21 15 rfl) (dd_of dL_law_21 16 rfl) (by decide) (fun c10 => ?_) (fun c10 => absurd h9 c10)
    refine lv_goto (tgt := 2515) hx hb (dd_of dL_law_21 19 rfl) (by decide) ?_
    exact kk B1 F1 G1 M1 x6 FM1 GM1 O1 H locs ls how hB1 h6 hV hD hS (lv_sub hl [2, 3, 4, 5, 6] rfl)
set_option maxHeartbeats 4000000 in
set_option maxRecDepth 100000 in
theorem cs_budget {p : Program} {l : Launch} {e : Env} {s : State} {m : MethodId} {args : Array Value} {below : List Frame} {meth : Method} {c : Code} {H : Heap} {locs : List Loc} {cells slots : Nat} {Q : State → Prop} {ls : Array Slot} {c0 : Cond} {D : va_G} {yy : Nat → ClassId} {Z : Nat → Prop} (hl9 : l.stackTraces = false) (oa h0 an sa L : Nat) (i : Int32) (xs : Nat → Int32) (O : Nat → Int64) (A B B2 : Nat → Nat) (F : jF) (G : jG) (F2 : jF) (G2 : jG) (M FM : jF) (GM : jG) (a1 : Int32) (hi1 : vp_in (i + 1) L) (ha1 : xs (Int32.toNatClampNeg (i + 1)) = a1) (a2 : Int32) (hi2 : vp_in (i + 2) L) (ha2 : xs (Int32.toNatClampNeg (i + 2)) = a2) (hok : okX11_budget F G M a1 a2) (hcod : (gX11_budget F G M a1 a2).1 = 0 ∨ (gX11_budget F G M a1 a2).1 = 2) (hth : ∀ (x6 : Int32) (FM1 : jF) (GM1 : jG), (x6, (FM1, GM1)) = (gX12_budget FM GM a1 a2) → gX12_thrown FM1 GM1 = wk 2 9 9 (gX11_budget F G M a1 a2).1) (hval : ∀ x st x6 st6, (gX11_budget F G M a1 a2) = (0, (x, st)) → (x6, st6) = (gX12_budget FM GM a1 a2) → Int32.toInt64 x = Int32.toInt64 x6) (hx : p.tables.exec = Jvm.exec) (hb : c.code = cL_law) (hml : c.maxLocals = 8) (hown : s.vm.findClass RL = some m.cls) (hts : ∀ w ∈ c0 :: wsL_law, w.before args s = true) (hV : va_P D vwCl (kW yy oa O (pV yy h0 an B B2 F G F2 G2 M) (mW yy A FM GM) sa L xs) H) (hK : va_K D vwCl (jT yy) s) (hT : jTP Z s) (hN : jNc s) (hD : va_D Z (kW yy oa O (pV yy h0 an B B2 F G F2 G2 M) (mW yy A FM GM) sa L xs)) (hS : va_S Z s.heap H locs) (hA : ∀ q, s.heap.size ≤ q → Z q) (hl : lv_has ls 8 [(4, .int i), (3, .ref oa), (2, .ref (A 99)), (1, .ref h0), (0, .ref sa)]) (hf : cells + 9 ≤ rmLaw.cells ∧ slots + 64 ≤ rmLaw.slots)
    (kk : ∀ (B1 : Nat → Nat) (F1 : jF) (G1 : jG) (M1 : jF) (x6 : Int32) (FM1 : jF) (GM1 : jG) (O1 : Nat → Int64) (H : Heap) (locs : List Loc) (ls : Array Slot), ((∃ x, (gX11_budget F G M a1 a2) = (0, (x, ((F1, G1), M1)))) ∨ ((gX11_budget F G M a1 a2).1 ≠ 0 ∧ B1 = B ∧ F1 = F ∧ G1 = G ∧ M1 = M)) → (∀ k, k < 100 → B1 k = B k) → (x6, (FM1, GM1)) = (gX12_budget FM GM a1 a2) → va_P D vwCl (kW yy oa O1 (pV yy h0 an B1 B2 F1 G1 F2 G2 M1) (mW yy A FM1 GM1) sa L xs) H → va_D Z (kW yy oa O1 (pV yy h0 an B1 B2 F1 G1 F2 G2 M1) (mW yy A FM1 GM1) sa L xs) → va_S Z s.heap H locs → lv_has ls 8 [(4, .int i), (3, .ref oa), (2, .ref (A 99)), (1, .ref h0), (0, .ref sa)] → W p l e rmLaw s m args below meth c H locs (cells + 9) (slots + 64) Q (F0 m 2515 ls [])) : W p l e rmLaw s m args below meth c H locs cells slots Q (F0 m 1426 ls []) := by
  have hX := kW_X hV
  refine lv_aload_n hx hb (dd_of dL_law_21 20 rfl) rfl (lv_at hl 3 rfl) ?_
  refine lv_aload_n hx hb (dd_of dL_law_21 21 rfl) rfl (lv_at hl 4 rfl) ?_
  refine lv_iload hx hb (dd_of dL_law_21 22 rfl) (lv_at hl 0 rfl) ?_
  refine lv_iconst (v := 1) hx hb (dd_of dL_law_21 23 rfl) (by decide) ?_
  refine lv_iadd hx hb (dd_of dL_law_21 24 rfl) ?_
  refine va_iald hx hb hK hX 0 0 rfl rfl hi1 (dd_of dL_law_21 25 rfl) ?_
  rw [ha1]
  refine lv_aload_n hx hb (dd_of dL_law_21 26 rfl) rfl (lv_at hl 4 rfl) ?_
  refine lv_iload hx hb (dd_of dL_law_21 27 rfl) (lv_at hl 0 rfl) ?_
  refine lv_iconst (v := 2) hx hb (dd_of dL_law_21 28 rfl) (by decide) ?_
  refine lv_iadd hx hb (dd_of dL_law_21 29 rfl) ?_
  refine va_iald hx hb hK hX 0 0 rfl rfl hi2 (dd_of dL_law_21 30 rfl) ?_
  rw [ha2]
  refine lv_aload_n hx hb (dd_of dL_law_21 31 rfl) rfl (lv_at hl 1 rfl) ?_
  refine js_i (As := [.ref h0, .int a1, .int a2, .ref oa]) (rest := []) (D := D) (yy := yy) (w := (kW yy oa O (pV yy h0 an B B2 F G F2 G2 M) (mW yy A FM GM) sa L xs)) (w1 := fun u : (((Nat → Nat) × jS) × jF) × (Nat → Int64) => kW yy oa u.2 (pV yy h0 an u.1.1.1 B2 u.1.1.2.1 u.1.1.2.2 F2 G2 u.1.2) (mW yy A FM GM) sa L xs) ⟨hx, hb, hml, hown, hts⟩ (qL_budget l hl9 D yy oa h0 an O B B2 F G F2 G2 M (mW yy A FM GM ++ [(sa, .inl (yy 0, L, .inl xs))]) H.size a1 a2 hok hcod) (vx_cwSW 4 hts (jgW gw848 gw849 gw173 gw850) rfl rfl rfl (by decide +kernel) ⟨Nat.le_of_ble_eq_true rfl, Nat.le_of_ble_eq_true rfl⟩) hV hK hT hN hD hS hA rfl hl.1 rfl (Nat.le_of_ble_eq_true rfl) (dd_of dL_law_21 32 rfl) hf (fun x5 u H locs hp hV hD hS => ?_)
  obtain ⟨⟨⟨B1, F1, G1⟩, M1⟩, O1⟩ := u
  obtain ⟨hp, hB1⟩ := hp
  have hB1 : ∀ k, k < 100 → B1 k = B k := hB1
  have hp : ((∃ x, (gX11_budget F G M a1 a2) = (0, (x, ((F1, G1), M1))) ∧ x5 = 0 ∧ O1 = vp_updL O 0 (Int32.toInt64 x)) ∨ ((gX11_budget F G M a1 a2).1 ≠ 0 ∧ x5 = wk 2 9 9 (gX11_budget F G M a1 a2).1 ∧ (((B1, (F1, G1)), M1), O1) = (((B, (F, G)), M), O))) := hp
  have hV : va_P D vwCl (kW yy oa O1 (pV yy h0 an B1 B2 F1 G1 F2 G2 M1) (mW yy A FM GM) sa L xs) H := hV
  have hD : va_D Z (kW yy oa O1 (pV yy h0 an B1 B2 F1 G1 F2 G2 M1) (mW yy A FM GM) sa L xs) := hD
  have hX := kW_X hV
  have hk5 : x5 = wk 2 9 9 (gX11_budget F G M a1 a2).1 := by
    rcases hp with ⟨x, h1, h2, _⟩ | ⟨_, h2, _⟩
    · rw [h2, h1]; rfl
    · exact h2
  refine lv_istore (lv' := [(5, .int x5), (4, .int i), (3, .ref oa), (2, .ref (A 99)), (1, .ref h0), (0, .ref sa)]) hx hb (dd_of dL_law_21 33 rfl) hl (by decide) rfl (fun ls hl => ?_)
  refine lv_aload_n hx hb (dd_of dL_law_21 34 rfl) rfl (lv_at hl 3 rfl) ?_
  refine lv_aload_n hx hb (dd_of dL_law_21 35 rfl) rfl (lv_at hl 5 rfl) ?_
  refine lv_iload hx hb (dd_of dL_law_21 36 rfl) (lv_at hl 1 rfl) ?_
  refine lv_iconst (v := 1) hx hb (dd_of dL_law_21 37 rfl) (by decide) ?_
  refine lv_iadd hx hb (dd_of dL_law_21 38 rfl) ?_
  refine va_iald hx hb hK hX 0 0 rfl rfl hi1 (dd_of dL_law_21 39 rfl) ?_
  rw [ha1]
  refine lv_aload_n hx hb (dd_of dL_law_22 0 rfl) rfl (lv_at hl 5 rfl) ?_
  refine lv_iload hx hb (dd_of dL_law_22 1 rfl) (lv_at hl 1 rfl) ?_
  refine lv_iconst (v := 2) hx hb (dd_of dL_law_22 2 rfl) (by decide) ?_
  refine lv_iadd hx hb (dd_of dL_law_22 3 rfl) ?_
  refine va_iald hx hb hK hX 0 0 rfl rfl hi2 (dd_of dL_law_22 4 rfl) ?_
  rw [ha2]
  refine jt_i (As := [.int a1, .int a2]) (rest := []) (D := D) (yy := yy) (oa := oa) (O := O1) (P := (pV yy h0 an B1 B2 F1 G1 F2 G2 M1)) (M := mW yy A FM GM) (w1 := fun u : jS => mW yy A u.1 u.2) ⟨hx, hb, hml, hown, hts⟩ (qX12_budget l D yy A FM GM H.size a1 a2) (cwV 2 hts (jgV gw855 gw856 gw857 gw5 gw858) rfl rfl rfl (by decide +kernel) ⟨Nat.le_of_ble_eq_true rfl, Nat.le_of_ble_eq_true rfl⟩) hV hK hD hS hA (va_recv hK (kW_M hV) (ci := 12) (q0 := 0) rfl rfl) rfl hl.1 rfl (Nat.le_of_ble_eq_true rfl) (dd_of dL_law_22 5 rfl) hf (fun x6 u H locs h6 hV hD hS => ?_)
  obtain ⟨FM1, GM1⟩ := u
  have h6 : (x6, (FM1, GM1)) = (gX12_budget FM GM a1 a2) := h6
  have hV : va_P D vwCl (kW yy oa O1 (pV yy h0 an B1 B2 F1 G1 F2 G2 M1) (mW yy A FM1 GM1) sa L xs) H := hV
  have hD : va_D Z (kW yy oa O1 (pV yy h0 an B1 B2 F1 G1 F2 G2 M1) (mW yy A FM1 GM1) sa L xs) := hD
  refine lv_istore (lv' := [(6, .int x6), (5, .int x5), (4, .int i), (3, .ref oa), (2, .ref (A 99)), (1, .ref h0), (0, .ref sa)]) hx hb (dd_of dL_law_22 6 rfl) hl (by decide) rfl (fun ls hl => ?_)
  refine lv_aload_n hx hb (dd_of dL_law_22 7 rfl) rfl (lv_at hl 4 rfl) ?_
  refine jc_i (As := []) (rest := []) (w := mW yy A FM1 GM1) (D := D) (yy := yy) ⟨hx, hb, hml, hown, hts⟩ (qX12_thrown l D yy A FM1 GM1) (cwV 0 hts (jgV gw594 gw595 gw596 gw5 gw597) rfl rfl rfl (by decide +kernel) ⟨Nat.le_of_ble_eq_true rfl, Nat.le_of_ble_eq_true rfl⟩) (kW_M hV) hK (va_recv hK (kW_M hV) (ci := 12) (q0 := 0) rfl rfl) rfl hl.1 rfl (Nat.le_of_ble_eq_true rfl) (dd_of dL_law_22 8 rfl) hf (fun x7 e7 => ?_)
  refine lv_iload hx hb (dd_of dL_law_22 9 rfl) (lv_at hl 1 rfl) ?_
  refine lv_icmp_eq (tgt := 1474) hx hb (dd_of dL_law_22 10 rfl) (by decide) (fun c7 => ?_) (fun c7 => absurd (e7.trans ((hth _ _ _ h6).trans hk5.symm)) c7)
  have how : ((∃ x, (gX11_budget F G M a1 a2) = (0, (x, ((F1, G1), M1)))) ∨ ((gX11_budget F G M a1 a2).1 ≠ 0 ∧ B1 = B ∧ F1 = F ∧ G1 = G ∧ M1 = M)) := by
    rcases hp with ⟨x, h1, _, _⟩ | ⟨h1, _, h2⟩
    · exact Or.inl ⟨x, h1⟩
    · simp only [Prod.mk.injEq] at h2
      exact Or.inr ⟨h1, h2.1.1.1, h2.1.1.2.1, h2.1.1.2.2, h2.1.2⟩
  refine lv_iload hx hb (dd_of dL_law_22 13 rfl) (lv_at hl 1 rfl) ?_
  refine lv_if_ne (tgt := 1491) hx hb (dd_of dL_law_22 14 rfl) (by decide) (fun c8 => ?_) (fun c8 => ?_)
  · skip
    refine lv_goto (tgt := 2515) hx hb (dd_of dL_law_22 24 rfl) (by decide) ?_
    exact kk B1 F1 G1 M1 x6 FM1 GM1 O1 H locs ls how hB1 h6 hV hD hS (lv_sub hl [2, 3, 4, 5, 6] rfl)
  · skip
    have hO := kW_O hV
    have h9 : O1 0 = Int32.toInt64 x6 := by
      rcases hp with ⟨x, h1, _, h2⟩ | ⟨h1, h2, _⟩
      · rw [h2]; exact hval _ _ _ _ h1 h6
      · exfalso; rw [h2] at c8; rcases hcod with hq | hq <;> first | exact h1 hq | (rw [hq] at c8; exact absurd c8 (by decide))
    refine lv_aload_n hx hb (dd_of dL_law_22 15 rfl) rfl (lv_at hl 3 rfl) ?_
    refine lv_iconst (v := 0) hx hb (dd_of dL_law_22 16 rfl) (by decide) ?_
    refine va_lald hx hb hK hO 0 1 rfl rfl (vin_lit (by decide)) (dd_of dL_law_22 17 rfl) ?_
    refine lv_iload hx hb (dd_of dL_law_22 18 rfl) (lv_at hl 0 rfl) ?_
    refine lv_i2l (v := Int32.toInt64 x6) hx hb (dd_of dL_law_22 19 rfl) rfl ?_
    refine jl_eq (tgt := 1491) hx hb (dd_of dL_law_22 20 rfl) (dd_of dL_law_22 21 rfl) (by decide) (fun c10 => ?_) (fun c10 => absurd h9 c10)
    refine lv_goto (tgt := 2515) hx hb (dd_of dL_law_22 24 rfl) (by decide) ?_
    exact kk B1 F1 G1 M1 x6 FM1 GM1 O1 H locs ls how hB1 h6 hV hD hS (lv_sub hl [2, 3, 4, 5, 6] rfl)
