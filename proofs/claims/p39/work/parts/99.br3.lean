-- the law's turns: pumps
set_option maxHeartbeats 4000000 in
set_option maxRecDepth 100000 in
theorem br_drive {p : Program} {l : Launch} {e : Env} {s : State} {m : MethodId} {args : Array Value} {below : List Frame} {meth : Method} {c : Code} {Q : State → Prop} {c0 : Cond} {D : va_G} {yy : Nat → ClassId} {Z : Nat → Prop} (hl9 : l.stackTraces = false) (h0 an sa : Nat) (hx : p.tables.exec = Jvm.exec) (hb : c.code = cL_law) (hml : c.maxLocals = 19) (hown : s.vm.findClass RL = some m.cls) (hts : ∀ w ∈ c0 :: wsL_law, w.before args s = true) (hK : va_K D vwCl (jT yy) s) (hT : jTP Z s) (hN : jNc s) (hA : ∀ q, s.heap.size ≤ q → Z q) (B B2 : Nat → Nat) {N nb ng np nd ny t tt k : Nat} {F F2 : jF} {G G2 : jG} {M FM : jF} {GM : jG} (hI : LI N nb ng np nd ny t F G F2 G2 M FM GM) (hnb : 2 ≤ nb ∧ nb ≤ 4) (hN3 : N + 3 ≤ 500) (ht9 : t + 12 ≤ 9000) (hcn : ng ≤ 8 ∧ np ≤ 8 ∧ nd ≤ 8) {H : Heap} {locs : List Loc} {cells slots : Nat} {ls : Array Slot} (hV : va_P D vwCl (pV yy h0 an B B2 F G F2 G2 M) H) (hD : va_D Z (pV yy h0 an B B2 F G F2 G2 M)) (hS : va_S Z s.heap H locs) {v so q : Int32} {bk : Nat} (hbk : bk < nb) (hq : eo F q) (hl : lv_has ls 19 [(13, .int q), (12, .int (nI bk)), (11, .int so), (10, .int v), (7, .int 1), (9, .int (nI k)), (8, .int (nI tt)), (6, .int (nI ny)), (5, .int (nI nd)), (4, .int (nI np)), (3, .int (nI ng)), (2, .int (nI nb)), (1, .ref h0), (0, .ref sa)]) (hce : cells ≤ 300000) (hsl : slots ≤ 3000000) (hp0 : 0 < np) (kk : ∀ (B1 B3 : Nat → Nat) (g1 p1 d1 y1 t1 : Nat) (F1 : jF) (G1 : jG) (F3 : jF) (G3 : jG) (M1 FM1 : jF) (GM1 : jG) (H : Heap) (locs : List Loc) (ls : Array Slot) (ce sl : Nat), LI (N + 2) nb g1 p1 d1 y1 t1 F1 G1 F3 G3 M1 FM1 GM1 → (g1 ≤ 8 ∧ p1 ≤ 8 ∧ d1 ≤ 8 ∧ t1 ≤ t + 12) → va_P D vwCl (pV yy h0 an B1 B3 F1 G1 F3 G3 M1) H → va_D Z (pV yy h0 an B1 B3 F1 G1 F3 G3 M1) → va_S Z s.heap H locs → lv_has ls 19 [(7, .int 1), (9, .int (nI k)), (8, .int (nI tt)), (6, .int (nI y1)), (5, .int (nI d1)), (4, .int (nI p1)), (3, .int (nI g1)), (2, .int (nI nb)), (1, .ref h0), (0, .ref sa)] → ce ≤ cells + 90 → sl ≤ slots + 600 → W p l e rmLaw s m args below meth c H locs ce sl Q (F0 m 1214 ls [])) : W p l e rmLaw s m args below meth c H locs cells slots Q (F0 m 608 ls []) := by
  obtain ⟨⟨b9, n9, hRR⟩, -, hc0, hc8, hc17, hc23, hc32, hc1⟩ := LI_rr hI
  refine lv_iload hx hb (dd_of dL_law_7 29 rfl) (lv_at hl 3 rfl) ?_
  refine lv_iconst (v := 4) hx hb (dd_of dL_law_7 30 rfl) (by decide) ?_
  refine lv_ishr hx hb (dd_of dL_law_7 31 rfl) ?_
  refine lv_iload hx hb (dd_of dL_law_7 32 rfl) (lv_at hl 9 rfl) ?_
  obtain ⟨j, h_j, e_j⟩ := low_n (v >>> (4 &&& 31)) (n := np) (by omega) (by omega)
  have e_j : lowv (v >>> (4 &&& 31)) (nI np) = nI j := e_j
  refine jc_si (As := [.int (v >>> (4 &&& 31)), .int (nI np)]) (rest := []) ⟨hx, hb, hml, hown, hts⟩ (qL_low l (v >>> (4 &&& 31)) (nI np) (nI_nz (by omega) (by omega))) (va_cwS 2 hts (jgSo gw2006 gw2007 gw173 gw2008) rfl rfl rfl (by decide +kernel) ⟨Nat.le_of_ble_eq_true rfl, Nat.le_of_ble_eq_true rfl⟩) rfl hl.1 rfl (Nat.le_of_ble_eq_true rfl) (dd_of dL_law_7 33 rfl) ⟨(show cells ≤ 600086 by omega), (show slots ≤ 7301442 by omega)⟩ (fun a1 ea1 => ?_)
  rw [e_j] at ea1
  subst ea1
  refine lv_istore (lv' := [(14, .int (nI j)), (13, .int q), (12, .int (nI bk)), (11, .int so), (10, .int v), (7, .int 1), (9, .int (nI k)), (8, .int (nI tt)), (6, .int (nI ny)), (5, .int (nI nd)), (4, .int (nI np)), (3, .int (nI ng)), (2, .int (nI nb)), (1, .ref h0), (0, .ref sa)]) hx hb (dd_of dL_law_7 34 rfl) hl (by decide) rfl (fun ls hl => ?_)
  refine lv_aload_n hx hb (dd_of dL_law_7 35 rfl) rfl (lv_at hl 13 rfl) ?_
  refine lv_iload hx hb (dd_of dL_law_7 36 rfl) (lv_at hl 0 rfl) ?_
  refine lv_iconst (v := 1) hx hb (dd_of dL_law_7 37 rfl) (by decide) ?_
  obtain ⟨⟨pu1, pu2⟩, pu3, pu4⟩ := gx_pump hRR M (k := j) (by omega)
  refine kr_i (As := [.int (nI j), .int 1]) (rest := []) (D := D) (yy := yy) (P0 := pV yy h0 an B B2 F G F2 G2 M) (gc := (gX11_pump F G M (nI j) 1).1) ⟨hx, hb, hml, hown, hts⟩ (qX11_pump l hl9 D yy h0 an B B2 F G F2 G2 M H.size (nI j) 1 pu1) (congrArg Prod.fst pu2) (cwV 2 hts (jgV gw2022 gw1052 gw1053 gw2 gw1054) rfl rfl rfl (by decide +kernel) ⟨Nat.le_of_ble_eq_true rfl, Nat.le_of_ble_eq_true rfl⟩) hV hK hT hS hA (va_recv hK hV (ci := 11) (q0 := 0) rfl rfl) rfl hl.1 rfl (Nat.le_of_ble_eq_true rfl) (dd_of dL_law_7 38 rfl) ⟨(show cells + 9 ≤ 600086 by omega), (show slots + 64 ≤ 7301442 by omega)⟩ (fun x2 H locs hp hV hS => ?_)
  have ex9 : (F 30 j) = x2 := (congrArg Prod.snd ((hp : gX11_pump F G M (nI j) 1 = (0, x2)).symm.trans pu2)).symm
  subst ex9
  refine lv_istore (lv' := [(15, .int (F 30 j)), (14, .int (nI j)), (13, .int q), (12, .int (nI bk)), (11, .int so), (10, .int v), (7, .int 1), (9, .int (nI k)), (8, .int (nI tt)), (6, .int (nI ny)), (5, .int (nI nd)), (4, .int (nI np)), (3, .int (nI ng)), (2, .int (nI nb)), (1, .ref h0), (0, .ref sa)]) hx hb (dd_of dL_law_7 39 rfl) hl (by decide) rfl (fun ls hl => ?_)
  refine lv_aload_n hx hb (dd_of dL_law_8 0 rfl) rfl (lv_at hl 14 rfl) ?_
  refine kr_i (As := []) (rest := []) (D := D) (yy := yy) (P0 := pV yy h0 an B B2 F G F2 G2 M) (gc := (gX11_money F G M).1) ⟨hx, hb, hml, hown, hts⟩ (qX11_money l hl9 D yy h0 an B B2 F G F2 G2 M H.size  ) (congrArg Prod.fst (rfl : gX11_money F G M = (0, F 62 0))) (cwV 0 hts (jgV gw2023 gw978 gw979 gw2 gw980) rfl rfl rfl (by decide +kernel) ⟨Nat.le_of_ble_eq_true rfl, Nat.le_of_ble_eq_true rfl⟩) hV hK hT hS hA (va_recv hK hV (ci := 11) (q0 := 0) rfl rfl) rfl hl.1 rfl (Nat.le_of_ble_eq_true rfl) (dd_of dL_law_8 1 rfl) ⟨(show cells + 9 + 9 ≤ 600086 by omega), (show slots + 64 + 64 ≤ 7301442 by omega)⟩ (fun x3 H locs hp hV hS => ?_)
  have ex9 : (F 62 0) = x3 := (congrArg Prod.snd ((hp : gX11_money F G M = (0, x3)).symm.trans (rfl : gX11_money F G M = (0, F 62 0)))).symm
  subst ex9
  refine lv_istore (lv' := [(16, .int (F 62 0)), (15, .int (F 30 j)), (14, .int (nI j)), (13, .int q), (12, .int (nI bk)), (11, .int so), (10, .int v), (7, .int 1), (9, .int (nI k)), (8, .int (nI tt)), (6, .int (nI ny)), (5, .int (nI nd)), (4, .int (nI np)), (3, .int (nI ng)), (2, .int (nI nb)), (1, .ref h0), (0, .ref sa)]) hx hb (dd_of dL_law_8 2 rfl) hl (by decide) rfl (fun ls hl => ?_)
  refine lv_iload hx hb (dd_of dL_law_8 3 rfl) (lv_at hl 6 rfl) ?_
  refine lv_bipush (v := 7) hx hb (dd_of dL_law_8 4 rfl) (by decide) ?_
  refine lv_ishr hx hb (dd_of dL_law_8 5 rfl) ?_
  refine lv_bipush (v := 30) hx hb (dd_of dL_law_8 6 rfl) (by decide) ?_
  refine jc_si (As := [.int (v >>> (7 &&& 31)), .int 30]) (rest := []) ⟨hx, hb, hml, hown, hts⟩ (qL_low l (v >>> (7 &&& 31)) 30 (by decide)) (va_cwS 2 hts (jgSo gw2006 gw2007 gw173 gw2008) rfl rfl rfl (by decide +kernel) ⟨Nat.le_of_ble_eq_true rfl, Nat.le_of_ble_eq_true rfl⟩) rfl hl.1 rfl (Nat.le_of_ble_eq_true rfl) (dd_of dL_law_8 7 rfl) ⟨(show cells + 9 + 9 ≤ 600086 by omega), (show slots + 64 + 64 ≤ 7301442 by omega)⟩ (fun a4 ea4 => ?_)
  have ba4 := low_b (v >>> (7 &&& 31)) (n := 30) (by decide)
  rw [← ea4] at ba4
  refine lv_istore (lv' := [(17, .int a4), (16, .int (F 62 0)), (15, .int (F 30 j)), (14, .int (nI j)), (13, .int q), (12, .int (nI bk)), (11, .int so), (10, .int v), (7, .int 1), (9, .int (nI k)), (8, .int (nI tt)), (6, .int (nI ny)), (5, .int (nI nd)), (4, .int (nI np)), (3, .int (nI ng)), (2, .int (nI nb)), (1, .ref h0), (0, .ref sa)]) hx hb (dd_of dL_law_8 8 rfl) hl (by decide) rfl (fun ls hl => ?_)
  refine lv_aload_n hx hb (dd_of dL_law_8 9 rfl) rfl (lv_at hl 16 rfl) ?_
  refine lv_iconst (v := 0) hx hb (dd_of dL_law_8 10 rfl) (by decide) ?_
  refine lv_iload hx hb (dd_of dL_law_8 11 rfl) (lv_at hl 3 rfl) ?_
  refine lv_iload hx hb (dd_of dL_law_8 12 rfl) (lv_at hl 7 rfl) ?_
  refine lv_iconst (v := 3) hx hb (dd_of dL_law_8 13 rfl) (by decide) ?_
  refine jc_si (As := [.int v, .int 3]) (rest := [.int (nI j), .int 0, .ref h0]) ⟨hx, hb, hml, hown, hts⟩ (qL_low l v 3 (by decide)) (va_cwS 2 hts (jgSo gw2006 gw2007 gw173 gw2008) rfl rfl rfl (by decide +kernel) ⟨Nat.le_of_ble_eq_true rfl, Nat.le_of_ble_eq_true rfl⟩) rfl hl.1 rfl (Nat.le_of_ble_eq_true rfl) (dd_of dL_law_8 14 rfl) ⟨(show cells + 9 + 9 ≤ 600086 by omega), (show slots + 64 + 64 ≤ 7301442 by omega)⟩ (fun a5 ea5 => ?_)
  have ba5 := low_b v (n := 3) (by decide)
  rw [← ea5] at ba5
  have join : ∀ o : Int32, (o = 0 ∨ o = 1) → W p l e rmLaw s m args below meth c H locs (cells + 9 + 9) (slots + 64 + 64) Q (F0 m 664 ls (.int o :: [.int (nI j), .int 0, .ref h0])) := by
    intro o ho
    refine lv_iload hx hb (dd_of dL_law_8 19 rfl) (lv_at hl 0 rfl) ?_
    have r2 := rng0 ba4 (M := 99) (by decide)
    obtain ⟨ok, hfe⟩ := fe_drive hI (by omega) h_j (p2 := o) r2.1 r2.2
    have hcod : (gX11_drive F G M (nI j) o a4).1 = 0 ∨ (gX11_drive F G M (nI j) o a4).1 = 3 := hfe.elim (fun ⟨_, _, _, _, _, _, e, _⟩ => Or.inl (congrArg Prod.fst e)) (fun q => Or.inr q.2)
    refine kw_i (As := [.ref h0, .int 0, .int (nI j), .int o, .int a4]) (rest := []) (D := D) (yy := yy) (P0 := pV yy h0 an B B2 F G F2 G2 M) (w1 := fun u : ((Nat → Nat) × jS) × jF => pV yy h0 an u.1.1 B2 u.1.2.1 u.1.2.2 F2 G2 u.2) ⟨hx, hb, hml, hown, hts⟩ (qL_acts_drive l hl9 D yy h0 an B B2 F G F2 G2 M H.size (nI j) o a4 ho ok hcod) (vx_cwSW 5 hts (jgW gw2024 gw2025 gw173 gw2026) rfl rfl rfl (by decide +kernel) ⟨Nat.le_of_ble_eq_true rfl, Nat.le_of_ble_eq_true rfl⟩) hV hK hT hN hD hS hA rfl hl.1 rfl (Nat.le_of_ble_eq_true rfl) (dd_of dL_law_8 20 rfl) ⟨(show cells + 9 + 9 + 9 ≤ 600086 by omega), (show slots + 64 + 64 + 64 ≤ 7301442 by omega)⟩ (fun x6 u H locs hp hV hD hS => ?_)
    obtain ⟨⟨B1, F9, G9⟩, M9⟩ := u
    obtain ⟨hp, -⟩ := hp
    have hp : gX11_drive F G M (nI j) o a4 = (0, (x6, ((F9, G9), M9))) ∨ ((gX11_drive F G M (nI j) o a4).1 = 3 ∧ x6 = -9 ∧ ((B1, (F9, G9)), M9) = ((B, (F, G)), M)) := hp
    have hV : va_P D vwCl (pV yy h0 an B1 B2 F9 G9 F2 G2 M9) H := hV
    have hD : va_D Z (pV yy h0 an B1 B2 F9 G9 F2 G2 M9) := hD
    rcases hfe with ⟨hmo, F1, G1, M1, FM1, GM1, eq, hmn, hI1⟩ | ⟨hmo, cod⟩
    · skip
      have hp := hp.resolve_right (fun q => absurd (show (0 : Nat) = 3 from (congrArg Prod.fst eq).symm.trans q.1) (by decide))
      have e9 := hp.symm.trans eq
      have ex : (F 30 j + a4) = x6 := (congrArg (fun z : Nat × (Int32 × (jS × jF)) => z.2.1) e9).symm
      have eF : F1 = F9 := (congrArg (fun z : Nat × (Int32 × (jS × jF)) => z.2.2.1.1) e9).symm
      have eG : G1 = G9 := (congrArg (fun z : Nat × (Int32 × (jS × jF)) => z.2.2.1.2) e9).symm
      have eM : M1 = M9 := (congrArg (fun z : Nat × (Int32 × (jS × jF)) => z.2.2.2) e9).symm
      subst ex
      subst eF
      subst eG
      subst eM
      refine lv_istore (lv' := [(18, .int (F 30 j + a4)), (17, .int a4), (16, .int (F 62 0)), (15, .int (F 30 j)), (14, .int (nI j)), (13, .int q), (12, .int (nI bk)), (11, .int so), (10, .int v), (7, .int 1), (9, .int (nI k)), (8, .int (nI tt)), (6, .int (nI ny)), (5, .int (nI nd)), (4, .int (nI np)), (3, .int (nI ng)), (2, .int (nI nb)), (1, .ref h0), (0, .ref sa)]) hx hb (dd_of dL_law_8 21 rfl) hl (by decide) rfl (fun ls hl => ?_)
      refine lv_iload hx hb (dd_of dL_law_8 22 rfl) (lv_at hl 0 rfl) ?_
      refine lv_iload hx hb (dd_of dL_law_8 23 rfl) (lv_at hl 2 rfl) ?_
      refine lv_iload hx hb (dd_of dL_law_8 24 rfl) (lv_at hl 1 rfl) ?_
      refine lv_icmp_ge (tgt := 685) hx hb (dd_of dL_law_8 25 rfl) (by decide) (fun c1 => ?_) (fun c1 => absurd (by rw [i32le]; rw [i32lt] at hmo; omega) c1)
      refine lv_iload hx hb (dd_of dL_law_8 28 rfl) (lv_at hl 3 rfl) ?_
      refine lv_iload hx hb (dd_of dL_law_8 29 rfl) (lv_at hl 1 rfl) ?_
      refine lv_iadd hx hb (dd_of dL_law_8 30 rfl) ?_
      refine lv_icmp_ne (tgt := 721) hx hb (dd_of dL_law_8 31 rfl) (by decide) (fun c1 => absurd rfl c1) (fun c1 => ?_)
      refine lv_aload_n hx hb (dd_of dL_law_8 32 rfl) rfl (lv_at hl 17 rfl) ?_
      refine kr_i (As := []) (rest := []) (D := D) (yy := yy) (P0 := pV yy h0 an B1 B2 F1 G1 F2 G2 M1) (gc := (gX11_money F1 G1 M1).1) ⟨hx, hb, hml, hown, hts⟩ (qX11_money l hl9 D yy h0 an B1 B2 F1 G1 F2 G2 M1 H.size  ) (congrArg Prod.fst (rfl : gX11_money F1 G1 M1 = (0, F1 62 0))) (cwV 0 hts (jgV gw2023 gw978 gw979 gw2 gw980) rfl rfl rfl (by decide +kernel) ⟨Nat.le_of_ble_eq_true rfl, Nat.le_of_ble_eq_true rfl⟩) hV hK hT hS hA (va_recv hK hV (ci := 11) (q0 := 0) rfl rfl) rfl hl.1 rfl (Nat.le_of_ble_eq_true rfl) (dd_of dL_law_8 33 rfl) ⟨(show cells + 9 + 9 + 9 + 9 ≤ 600086 by omega), (show slots + 64 + 64 + 64 + 64 ≤ 7301442 by omega)⟩ (fun x7 H locs hp hV hS => ?_)
      have ex9 : (F1 62 0) = x7 := (congrArg Prod.snd ((hp : gX11_money F1 G1 M1 = (0, x7)).symm.trans (rfl : gX11_money F1 G1 M1 = (0, F1 62 0)))).symm
      subst ex9
      refine lv_iload hx hb (dd_of dL_law_8 34 rfl) (lv_at hl 2 rfl) ?_
      refine lv_iload hx hb (dd_of dL_law_8 35 rfl) (lv_at hl 1 rfl) ?_
      refine lv_icmp_ge (tgt := 709) hx hb (dd_of dL_law_8 36 rfl) (by decide) (fun c1 => ?_) (fun c1 => absurd (by rw [i32le]; rw [i32lt] at hmo; omega) c1)
      refine lv_iload hx hb (dd_of dL_law_8 39 rfl) (lv_at hl 2 rfl) ?_
      refine lv_iload hx hb (dd_of dL_law_9 0 rfl) (lv_at hl 1 rfl) ?_
      refine lv_isub hx hb (dd_of dL_law_9 1 rfl) ?_
      refine lv_icmp_ne (tgt := 721) hx hb (dd_of dL_law_9 2 rfl) (by decide) (fun c1 => absurd hmn c1) (fun c1 => ?_)
      refine lv_iconst (v := 1) hx hb (dd_of dL_law_9 3 rfl) (by decide) ?_
      refine lv_goto (tgt := 722) hx hb (dd_of dL_law_9 4 rfl) (by decide) ?_
      refine lv_istore (lv' := [(7, .int 1), (18, .int (F 30 j + a4)), (17, .int a4), (16, .int (F 62 0)), (15, .int (F 30 j)), (14, .int (nI j)), (13, .int q), (12, .int (nI bk)), (11, .int so), (10, .int v), (9, .int (nI k)), (8, .int (nI tt)), (6, .int (nI ny)), (5, .int (nI nd)), (4, .int (nI np)), (3, .int (nI ng)), (2, .int (nI nb)), (1, .ref h0), (0, .ref sa)]) hx hb (dd_of dL_law_9 6 rfl) hl (by decide) rfl (fun ls hl => ?_)
      refine lv_goto (tgt := 1214) hx hb (dd_of dL_law_9 7 rfl) (by decide) ?_
      exact kk B1 B2 ng np nd ny t F1 G1 F2 G2 M1 FM1 GM1 H locs ls _ _ (LI_up hI1 (by omega)) ⟨by omega, by omega, by omega, by omega⟩ hV hD hS (lv_sub hl [0, 10, 11, 12, 13, 14, 15, 16, 17, 18] rfl) (show cells + 9 + 9 + 9 + 9 ≤ cells + 90 by omega) (show slots + 64 + 64 + 64 + 64 ≤ slots + 600 by omega)
    · skip
      have hp := hp.resolve_left (fun q => absurd (show (0 : Nat) = 3 from (congrArg Prod.fst q).symm.trans cod) (by decide))
      have ex : -9 = x6 := hp.2.1.symm
      have hu := hp.2.2
      have eB : B = B1 := (congrArg (fun z : ((Nat → Nat) × jS) × jF => z.1.1) hu).symm
      have eF : F = F9 := (congrArg (fun z : ((Nat → Nat) × jS) × jF => z.1.2.1) hu).symm
      have eG : G = G9 := (congrArg (fun z : ((Nat → Nat) × jS) × jF => z.1.2.2) hu).symm
      have eM : M = M9 := (congrArg (fun z : ((Nat → Nat) × jS) × jF => z.2) hu).symm
      clear hp
      subst ex
      subst eB
      subst eF
      subst eG
      subst eM
      refine lv_istore (lv' := [(18, .int (-9)), (17, .int a4), (16, .int (F 62 0)), (15, .int (F 30 j)), (14, .int (nI j)), (13, .int q), (12, .int (nI bk)), (11, .int so), (10, .int v), (7, .int 1), (9, .int (nI k)), (8, .int (nI tt)), (6, .int (nI ny)), (5, .int (nI nd)), (4, .int (nI np)), (3, .int (nI ng)), (2, .int (nI nb)), (1, .ref h0), (0, .ref sa)]) hx hb (dd_of dL_law_8 21 rfl) hl (by decide) rfl (fun ls hl => ?_)
      refine lv_iload hx hb (dd_of dL_law_8 22 rfl) (lv_at hl 0 rfl) ?_
      refine lv_iload hx hb (dd_of dL_law_8 23 rfl) (lv_at hl 2 rfl) ?_
      refine lv_iload hx hb (dd_of dL_law_8 24 rfl) (lv_at hl 1 rfl) ?_
      refine lv_icmp_ge (tgt := 685) hx hb (dd_of dL_law_8 25 rfl) (by decide) (fun c1 => absurd c1 (fun q => by rw [i32le] at q; rw [i32lt] at hmo; omega)) (fun c1 => ?_)
      refine lv_bipush (v := (-9)) hx hb (dd_of dL_law_8 26 rfl) (by decide) ?_
      refine lv_goto (tgt := 690) hx hb (dd_of dL_law_8 27 rfl) (by decide) ?_
      refine lv_icmp_ne (tgt := 721) hx hb (dd_of dL_law_8 31 rfl) (by decide) (fun c1 => absurd rfl c1) (fun c1 => ?_)
      refine lv_aload_n hx hb (dd_of dL_law_8 32 rfl) rfl (lv_at hl 17 rfl) ?_
      refine kr_i (As := []) (rest := []) (D := D) (yy := yy) (P0 := pV yy h0 an B B2 F G F2 G2 M) (gc := (gX11_money F G M).1) ⟨hx, hb, hml, hown, hts⟩ (qX11_money l hl9 D yy h0 an B B2 F G F2 G2 M H.size  ) (congrArg Prod.fst (rfl : gX11_money F G M = (0, F 62 0))) (cwV 0 hts (jgV gw2023 gw978 gw979 gw2 gw980) rfl rfl rfl (by decide +kernel) ⟨Nat.le_of_ble_eq_true rfl, Nat.le_of_ble_eq_true rfl⟩) hV hK hT hS hA (va_recv hK hV (ci := 11) (q0 := 0) rfl rfl) rfl hl.1 rfl (Nat.le_of_ble_eq_true rfl) (dd_of dL_law_8 33 rfl) ⟨(show cells + 9 + 9 + 9 + 9 ≤ 600086 by omega), (show slots + 64 + 64 + 64 + 64 ≤ 7301442 by omega)⟩ (fun x7 H locs hp hV hS => ?_)
      have ex9 : (F 62 0) = x7 := (congrArg Prod.snd ((hp : gX11_money F G M = (0, x7)).symm.trans (rfl : gX11_money F G M = (0, F 62 0)))).symm
      subst ex9
      refine lv_iload hx hb (dd_of dL_law_8 34 rfl) (lv_at hl 2 rfl) ?_
      refine lv_iload hx hb (dd_of dL_law_8 35 rfl) (lv_at hl 1 rfl) ?_
      refine lv_icmp_ge (tgt := 709) hx hb (dd_of dL_law_8 36 rfl) (by decide) (fun c1 => absurd c1 (fun q => by rw [i32le] at q; rw [i32lt] at hmo; omega)) (fun c1 => ?_)
      refine lv_iload hx hb (dd_of dL_law_8 37 rfl) (lv_at hl 2 rfl) ?_
      refine lv_goto (tgt := 714) hx hb (dd_of dL_law_8 38 rfl) (by decide) ?_
      refine lv_icmp_ne (tgt := 721) hx hb (dd_of dL_law_9 2 rfl) (by decide) (fun c1 => absurd rfl c1) (fun c1 => ?_)
      refine lv_iconst (v := 1) hx hb (dd_of dL_law_9 3 rfl) (by decide) ?_
      refine lv_goto (tgt := 722) hx hb (dd_of dL_law_9 4 rfl) (by decide) ?_
      refine lv_istore (lv' := [(7, .int 1), (18, .int (-9)), (17, .int a4), (16, .int (F 62 0)), (15, .int (F 30 j)), (14, .int (nI j)), (13, .int q), (12, .int (nI bk)), (11, .int so), (10, .int v), (9, .int (nI k)), (8, .int (nI tt)), (6, .int (nI ny)), (5, .int (nI nd)), (4, .int (nI np)), (3, .int (nI ng)), (2, .int (nI nb)), (1, .ref h0), (0, .ref sa)]) hx hb (dd_of dL_law_9 6 rfl) hl (by decide) rfl (fun ls hl => ?_)
      refine lv_goto (tgt := 1214) hx hb (dd_of dL_law_9 7 rfl) (by decide) ?_
      exact kk B B2 ng np nd ny t F G F2 G2 M FM GM H locs ls _ _ (LI_up hI (by omega)) ⟨by omega, by omega, by omega, by omega⟩ hV hD hS (lv_sub hl [0, 10, 11, 12, 13, 14, 15, 16, 17, 18] rfl) (show cells + 9 + 9 + 9 + 9 ≤ cells + 90 by omega) (show slots + 64 + 64 + 64 + 64 ≤ slots + 600 by omega)
  refine lv_if_ne (tgt := 663) hx hb (dd_of dL_law_8 15 rfl) (by decide) (fun c1 => ?_) (fun c1 => ?_)
  · skip
    refine lv_iconst (v := 1) hx hb (dd_of dL_law_8 18 rfl) (by decide) ?_
    exact join 1 (Or.inr rfl)
  · skip
    refine lv_iconst (v := 0) hx hb (dd_of dL_law_8 16 rfl) (by decide) ?_
    refine lv_goto (tgt := 664) hx hb (dd_of dL_law_8 17 rfl) (by decide) ?_
    exact join 0 (Or.inl rfl)
set_option maxHeartbeats 4000000 in
set_option maxRecDepth 100000 in
theorem br_mend {p : Program} {l : Launch} {e : Env} {s : State} {m : MethodId} {args : Array Value} {below : List Frame} {meth : Method} {c : Code} {Q : State → Prop} {c0 : Cond} {D : va_G} {yy : Nat → ClassId} {Z : Nat → Prop} (hl9 : l.stackTraces = false) (h0 an sa : Nat) (hx : p.tables.exec = Jvm.exec) (hb : c.code = cL_law) (hml : c.maxLocals = 19) (hown : s.vm.findClass RL = some m.cls) (hts : ∀ w ∈ c0 :: wsL_law, w.before args s = true) (hK : va_K D vwCl (jT yy) s) (hT : jTP Z s) (hN : jNc s) (hA : ∀ q, s.heap.size ≤ q → Z q) (B B2 : Nat → Nat) {N nb ng np nd ny t tt k : Nat} {F F2 : jF} {G G2 : jG} {M FM : jF} {GM : jG} (hI : LI N nb ng np nd ny t F G F2 G2 M FM GM) (hnb : 2 ≤ nb ∧ nb ≤ 4) (hN3 : N + 3 ≤ 500) (ht9 : t + 12 ≤ 9000) (hcn : ng ≤ 8 ∧ np ≤ 8 ∧ nd ≤ 8) {H : Heap} {locs : List Loc} {cells slots : Nat} {ls : Array Slot} (hV : va_P D vwCl (pV yy h0 an B B2 F G F2 G2 M) H) (hD : va_D Z (pV yy h0 an B B2 F G F2 G2 M)) (hS : va_S Z s.heap H locs) {v so q : Int32} {bk : Nat} (hbk : bk < nb) (hq : eo F q) (hl : lv_has ls 19 [(13, .int q), (12, .int (nI bk)), (11, .int so), (10, .int v), (7, .int 1), (9, .int (nI k)), (8, .int (nI tt)), (6, .int (nI ny)), (5, .int (nI nd)), (4, .int (nI np)), (3, .int (nI ng)), (2, .int (nI nb)), (1, .ref h0), (0, .ref sa)]) (hce : cells ≤ 300000) (hsl : slots ≤ 3000000) (hp0 : 0 < np) (kk : ∀ (B1 B3 : Nat → Nat) (g1 p1 d1 y1 t1 : Nat) (F1 : jF) (G1 : jG) (F3 : jF) (G3 : jG) (M1 FM1 : jF) (GM1 : jG) (H : Heap) (locs : List Loc) (ls : Array Slot) (ce sl : Nat), LI (N + 2) nb g1 p1 d1 y1 t1 F1 G1 F3 G3 M1 FM1 GM1 → (g1 ≤ 8 ∧ p1 ≤ 8 ∧ d1 ≤ 8 ∧ t1 ≤ t + 12) → va_P D vwCl (pV yy h0 an B1 B3 F1 G1 F3 G3 M1) H → va_D Z (pV yy h0 an B1 B3 F1 G1 F3 G3 M1) → va_S Z s.heap H locs → lv_has ls 19 [(7, .int 1), (9, .int (nI k)), (8, .int (nI tt)), (6, .int (nI y1)), (5, .int (nI d1)), (4, .int (nI p1)), (3, .int (nI g1)), (2, .int (nI nb)), (1, .ref h0), (0, .ref sa)] → ce ≤ cells + 90 → sl ≤ slots + 600 → W p l e rmLaw s m args below meth c H locs ce sl Q (F0 m 1214 ls [])) : W p l e rmLaw s m args below meth c H locs cells slots Q (F0 m 739 ls []) := by
  obtain ⟨⟨b9, n9, hRR⟩, -, hc0, hc8, hc17, hc23, hc32, hc1⟩ := LI_rr hI
  refine lv_aload_n hx hb (dd_of dL_law_9 13 rfl) rfl (lv_at hl 12 rfl) ?_
  refine lv_iload hx hb (dd_of dL_law_9 14 rfl) (lv_at hl 3 rfl) ?_
  refine lv_iconst (v := 4) hx hb (dd_of dL_law_9 15 rfl) (by decide) ?_
  refine lv_ishr hx hb (dd_of dL_law_9 16 rfl) ?_
  refine lv_iload hx hb (dd_of dL_law_9 17 rfl) (lv_at hl 9 rfl) ?_
  obtain ⟨j, h_j, e_j⟩ := low_n (v >>> (4 &&& 31)) (n := np) (by omega) (by omega)
  have e_j : lowv (v >>> (4 &&& 31)) (nI np) = nI j := e_j
  refine jc_si (As := [.int (v >>> (4 &&& 31)), .int (nI np)]) (rest := [.ref h0]) ⟨hx, hb, hml, hown, hts⟩ (qL_low l (v >>> (4 &&& 31)) (nI np) (nI_nz (by omega) (by omega))) (va_cwS 2 hts (jgSo gw2006 gw2007 gw173 gw2008) rfl rfl rfl (by decide +kernel) ⟨Nat.le_of_ble_eq_true rfl, Nat.le_of_ble_eq_true rfl⟩) rfl hl.1 rfl (Nat.le_of_ble_eq_true rfl) (dd_of dL_law_9 18 rfl) ⟨(show cells ≤ 600086 by omega), (show slots ≤ 7301442 by omega)⟩ (fun a1 ea1 => ?_)
  rw [e_j] at ea1
  subst ea1
  refine lv_iconst (v := 2) hx hb (dd_of dL_law_9 19 rfl) (by decide) ?_
  obtain ⟨⟨pu1, pu2⟩, pu3, pu4⟩ := gx_pump hRR M (k := j) (by omega)
  refine kr_i (As := [.int (nI j), .int 2]) (rest := []) (D := D) (yy := yy) (P0 := pV yy h0 an B B2 F G F2 G2 M) (gc := (gX11_pump F G M (nI j) 2).1) ⟨hx, hb, hml, hown, hts⟩ (qX11_pump l hl9 D yy h0 an B B2 F G F2 G2 M H.size (nI j) 2 pu3) (congrArg Prod.fst pu4) (cwV 2 hts (jgV gw2022 gw1052 gw1053 gw2 gw1054) rfl rfl rfl (by decide +kernel) ⟨Nat.le_of_ble_eq_true rfl, Nat.le_of_ble_eq_true rfl⟩) hV hK hT hS hA (va_recv hK hV (ci := 11) (q0 := 0) rfl rfl) rfl hl.1 rfl (Nat.le_of_ble_eq_true rfl) (dd_of dL_law_9 20 rfl) ⟨(show cells + 9 ≤ 600086 by omega), (show slots + 64 ≤ 7301442 by omega)⟩ (fun x2 H locs hp hV hS => ?_)
  have ex9 : (F 31 j) = x2 := (congrArg Prod.snd ((hp : gX11_pump F G M (nI j) 2 = (0, x2)).symm.trans pu4)).symm
  subst ex9
  refine lv_istore (lv' := [(14, .int (F 31 j)), (13, .int q), (12, .int (nI bk)), (11, .int so), (10, .int v), (7, .int 1), (9, .int (nI k)), (8, .int (nI tt)), (6, .int (nI ny)), (5, .int (nI nd)), (4, .int (nI np)), (3, .int (nI ng)), (2, .int (nI nb)), (1, .ref h0), (0, .ref sa)]) hx hb (dd_of dL_law_9 21 rfl) hl (by decide) rfl (fun ls hl => ?_)
  refine lv_aload_n hx hb (dd_of dL_law_9 22 rfl) rfl (lv_at hl 13 rfl) ?_
  refine lv_iconst (v := 1) hx hb (dd_of dL_law_9 23 rfl) (by decide) ?_
  refine lv_iload hx hb (dd_of dL_law_9 24 rfl) (lv_at hl 4 rfl) ?_
  refine lv_iconst (v := 4) hx hb (dd_of dL_law_9 25 rfl) (by decide) ?_
  refine lv_ishr hx hb (dd_of dL_law_9 26 rfl) ?_
  refine lv_iload hx hb (dd_of dL_law_9 27 rfl) (lv_at hl 10 rfl) ?_
  refine jc_si (As := [.int (v >>> (4 &&& 31)), .int (nI np)]) (rest := [.int 1, .ref h0]) ⟨hx, hb, hml, hown, hts⟩ (qL_low l (v >>> (4 &&& 31)) (nI np) (nI_nz (by omega) (by omega))) (va_cwS 2 hts (jgSo gw2006 gw2007 gw173 gw2008) rfl rfl rfl (by decide +kernel) ⟨Nat.le_of_ble_eq_true rfl, Nat.le_of_ble_eq_true rfl⟩) rfl hl.1 rfl (Nat.le_of_ble_eq_true rfl) (dd_of dL_law_9 28 rfl) ⟨(show cells + 9 ≤ 600086 by omega), (show slots + 64 ≤ 7301442 by omega)⟩ (fun a3 ea3 => ?_)
  rw [e_j] at ea3
  subst ea3
  refine lv_iconst (v := 0) hx hb (dd_of dL_law_9 29 rfl) (by decide) ?_
  refine lv_iconst (v := 0) hx hb (dd_of dL_law_9 30 rfl) (by decide) ?_
  obtain ⟨ok, hfe⟩ := fe_mend hI (by omega) h_j
  have hcod : (gX11_mend F G M (nI j)).1 = 0 ∨ (gX11_mend F G M (nI j)).1 = 3 := hfe.elim (fun ⟨_, _, _, _, _, e, _⟩ => Or.inl (congrArg Prod.fst e)) (fun q => Or.inr q)
  refine kw_i (As := [.ref h0, .int 1, .int (nI j), .int 0, .int 0]) (rest := []) (D := D) (yy := yy) (P0 := pV yy h0 an B B2 F G F2 G2 M) (w1 := fun u : ((Nat → Nat) × jS) × jF => pV yy h0 an u.1.1 B2 u.1.2.1 u.1.2.2 F2 G2 u.2) ⟨hx, hb, hml, hown, hts⟩ (qL_acts_mend l hl9 D yy h0 an B B2 F G F2 G2 M H.size (nI j) 0 0 ok hcod) (vx_cwSW 5 hts (jgW gw2024 gw2025 gw173 gw2026) rfl rfl rfl (by decide +kernel) ⟨Nat.le_of_ble_eq_true rfl, Nat.le_of_ble_eq_true rfl⟩) hV hK hT hN hD hS hA rfl hl.1 rfl (Nat.le_of_ble_eq_true rfl) (dd_of dL_law_9 31 rfl) ⟨(show cells + 9 + 9 ≤ 600086 by omega), (show slots + 64 + 64 ≤ 7301442 by omega)⟩ (fun x4 u H locs hp hV hD hS => ?_)
  obtain ⟨⟨B1, F9, G9⟩, M9⟩ := u
  obtain ⟨hp, -⟩ := hp
  have hp : gX11_mend F G M (nI j) = (0, (x4, ((F9, G9), M9))) ∨ ((gX11_mend F G M (nI j)).1 = 3 ∧ x4 = -9 ∧ ((B1, (F9, G9)), M9) = ((B, (F, G)), M)) := hp
  have hV : va_P D vwCl (pV yy h0 an B1 B2 F9 G9 F2 G2 M9) H := hV
  have hD : va_D Z (pV yy h0 an B1 B2 F9 G9 F2 G2 M9) := hD
  rcases hfe with ⟨F1, G1, M1, FM1, GM1, eq, h31, hI1⟩ | cod
  · skip
    have hp := hp.resolve_right (fun q => absurd (show (0 : Nat) = 3 from (congrArg Prod.fst eq).symm.trans q.1) (by decide))
    have e9 := hp.symm.trans eq
    have ex : (F 31 j) = x4 := (congrArg (fun z : Nat × (Int32 × (jS × jF)) => z.2.1) e9).symm
    have eF : F1 = F9 := (congrArg (fun z : Nat × (Int32 × (jS × jF)) => z.2.2.1.1) e9).symm
    have eG : G1 = G9 := (congrArg (fun z : Nat × (Int32 × (jS × jF)) => z.2.2.1.2) e9).symm
    have eM : M1 = M9 := (congrArg (fun z : Nat × (Int32 × (jS × jF)) => z.2.2.2) e9).symm
    subst ex
    subst eF
    subst eG
    subst eM
    refine lv_istore (lv' := [(15, .int (F 31 j)), (14, .int (F 31 j)), (13, .int q), (12, .int (nI bk)), (11, .int so), (10, .int v), (7, .int 1), (9, .int (nI k)), (8, .int (nI tt)), (6, .int (nI ny)), (5, .int (nI nd)), (4, .int (nI np)), (3, .int (nI ng)), (2, .int (nI nb)), (1, .ref h0), (0, .ref sa)]) hx hb (dd_of dL_law_9 32 rfl) hl (by decide) rfl (fun ls hl => ?_)
    refine lv_iload hx hb (dd_of dL_law_9 33 rfl) (lv_at hl 0 rfl) ?_
    refine lv_bipush (v := (-9)) hx hb (dd_of dL_law_9 34 rfl) (by decide) ?_
    refine lv_icmp_eq (tgt := 804) hx hb (dd_of dL_law_9 35 rfl) (by decide) (fun c1 => ?_) (fun c1 => ?_)
    · skip
      refine lv_iconst (v := 1) hx hb (dd_of dL_law_10 8 rfl) (by decide) ?_
      refine lv_goto (tgt := 809) hx hb (dd_of dL_law_10 9 rfl) (by decide) ?_
      refine lv_istore (lv' := [(7, .int 1), (15, .int (F 31 j)), (14, .int (F 31 j)), (13, .int q), (12, .int (nI bk)), (11, .int so), (10, .int v), (9, .int (nI k)), (8, .int (nI tt)), (6, .int (nI ny)), (5, .int (nI nd)), (4, .int (nI np)), (3, .int (nI ng)), (2, .int (nI nb)), (1, .ref h0), (0, .ref sa)]) hx hb (dd_of dL_law_10 11 rfl) hl (by decide) rfl (fun ls hl => ?_)
      refine lv_goto (tgt := 1214) hx hb (dd_of dL_law_10 12 rfl) (by decide) ?_
      exact kk B1 B2 ng np nd ny t F1 G1 F2 G2 M1 FM1 GM1 H locs ls _ _ (LI_up hI1 (by omega)) ⟨by omega, by omega, by omega, by omega⟩ hV hD hS (lv_sub hl [0, 7, 8, 9, 10, 11, 12, 13, 14, 15] rfl) (show cells + 9 + 9 ≤ cells + 90 by omega) (show slots + 64 + 64 ≤ slots + 600 by omega)
    · skip
      refine lv_iload hx hb (dd_of dL_law_9 36 rfl) (lv_at hl 0 rfl) ?_
      refine lv_iload hx hb (dd_of dL_law_9 37 rfl) (lv_at hl 1 rfl) ?_
      refine lv_icmp_ne (tgt := 808) hx hb (dd_of dL_law_9 38 rfl) (by decide) (fun c2 => absurd rfl c2) (fun c2 => ?_)
      refine lv_aload_n hx hb (dd_of dL_law_9 39 rfl) rfl (lv_at hl 14 rfl) ?_
      refine lv_iload hx hb (dd_of dL_law_10 0 rfl) (lv_at hl 5 rfl) ?_
      refine lv_iconst (v := 4) hx hb (dd_of dL_law_10 1 rfl) (by decide) ?_
      refine lv_ishr hx hb (dd_of dL_law_10 2 rfl) ?_
      refine lv_iload hx hb (dd_of dL_law_10 3 rfl) (lv_at hl 11 rfl) ?_
      refine jc_si (As := [.int (v >>> (4 &&& 31)), .int (nI np)]) (rest := [.ref h0]) ⟨hx, hb, hml, hown, hts⟩ (qL_low l (v >>> (4 &&& 31)) (nI np) (nI_nz (by omega) (by omega))) (va_cwS 2 hts (jgSo gw2006 gw2007 gw173 gw2008) rfl rfl rfl (by decide +kernel) ⟨Nat.le_of_ble_eq_true rfl, Nat.le_of_ble_eq_true rfl⟩) rfl hl.1 rfl (Nat.le_of_ble_eq_true rfl) (dd_of dL_law_10 4 rfl) ⟨(show cells + 9 + 9 ≤ 600086 by omega), (show slots + 64 + 64 ≤ 7301442 by omega)⟩ (fun a5 ea5 => ?_)
      rw [e_j] at ea5
      subst ea5
      refine lv_iconst (v := 2) hx hb (dd_of dL_law_10 5 rfl) (by decide) ?_
      obtain ⟨⟨b8, n8, hRR1⟩, -, -, -, -, hc23b, -, -⟩ := LI_rr hI1
      obtain ⟨-, pv3, pv4⟩ := gx_pump hRR1 M1 (k := j) (by omega)
      refine kr_i (As := [.int (nI j), .int 2]) (rest := []) (D := D) (yy := yy) (P0 := pV yy h0 an B1 B2 F1 G1 F2 G2 M1) (gc := (gX11_pump F1 G1 M1 (nI j) 2).1) ⟨hx, hb, hml, hown, hts⟩ (qX11_pump l hl9 D yy h0 an B1 B2 F1 G1 F2 G2 M1 H.size (nI j) 2 pv3) (congrArg Prod.fst pv4) (cwV 2 hts (jgV gw2022 gw1052 gw1053 gw2 gw1054) rfl rfl rfl (by decide +kernel) ⟨Nat.le_of_ble_eq_true rfl, Nat.le_of_ble_eq_true rfl⟩) hV hK hT hS hA (va_recv hK hV (ci := 11) (q0 := 0) rfl rfl) rfl hl.1 rfl (Nat.le_of_ble_eq_true rfl) (dd_of dL_law_10 6 rfl) ⟨(show cells + 9 + 9 + 9 ≤ 600086 by omega), (show slots + 64 + 64 + 64 ≤ 7301442 by omega)⟩ (fun x6 H locs hp hV hS => ?_)
      have ex9 : (F1 31 j) = x6 := (congrArg Prod.snd ((hp : gX11_pump F1 G1 M1 (nI j) 2 = (0, x6)).symm.trans pv4)).symm
      subst ex9
      refine lv_if_ne (tgt := 808) hx hb (dd_of dL_law_10 7 rfl) (by decide) (fun c2 => absurd h31 c2) (fun c2 => ?_)
      refine lv_iconst (v := 1) hx hb (dd_of dL_law_10 8 rfl) (by decide) ?_
      refine lv_goto (tgt := 809) hx hb (dd_of dL_law_10 9 rfl) (by decide) ?_
      refine lv_istore (lv' := [(7, .int 1), (15, .int (F 31 j)), (14, .int (F 31 j)), (13, .int q), (12, .int (nI bk)), (11, .int so), (10, .int v), (9, .int (nI k)), (8, .int (nI tt)), (6, .int (nI ny)), (5, .int (nI nd)), (4, .int (nI np)), (3, .int (nI ng)), (2, .int (nI nb)), (1, .ref h0), (0, .ref sa)]) hx hb (dd_of dL_law_10 11 rfl) hl (by decide) rfl (fun ls hl => ?_)
      refine lv_goto (tgt := 1214) hx hb (dd_of dL_law_10 12 rfl) (by decide) ?_
      exact kk B1 B2 ng np nd ny t F1 G1 F2 G2 M1 FM1 GM1 H locs ls _ _ (LI_up hI1 (by omega)) ⟨by omega, by omega, by omega, by omega⟩ hV hD hS (lv_sub hl [0, 7, 8, 9, 10, 11, 12, 13, 14, 15] rfl) (show cells + 9 + 9 + 9 ≤ cells + 90 by omega) (show slots + 64 + 64 + 64 ≤ slots + 600 by omega)
  · skip
    have hp := hp.resolve_left (fun q => absurd (show (0 : Nat) = 3 from (congrArg Prod.fst q).symm.trans cod) (by decide))
    have ex : -9 = x4 := hp.2.1.symm
    have hu := hp.2.2
    have eB : B = B1 := (congrArg (fun z : ((Nat → Nat) × jS) × jF => z.1.1) hu).symm
    have eF : F = F9 := (congrArg (fun z : ((Nat → Nat) × jS) × jF => z.1.2.1) hu).symm
    have eG : G = G9 := (congrArg (fun z : ((Nat → Nat) × jS) × jF => z.1.2.2) hu).symm
    have eM : M = M9 := (congrArg (fun z : ((Nat → Nat) × jS) × jF => z.2) hu).symm
    clear hp
    subst ex
    subst eB
    subst eF
    subst eG
    subst eM
    refine lv_istore (lv' := [(15, .int (-9)), (14, .int (F 31 j)), (13, .int q), (12, .int (nI bk)), (11, .int so), (10, .int v), (7, .int 1), (9, .int (nI k)), (8, .int (nI tt)), (6, .int (nI ny)), (5, .int (nI nd)), (4, .int (nI np)), (3, .int (nI ng)), (2, .int (nI nb)), (1, .ref h0), (0, .ref sa)]) hx hb (dd_of dL_law_9 32 rfl) hl (by decide) rfl (fun ls hl => ?_)
    refine lv_iload hx hb (dd_of dL_law_9 33 rfl) (lv_at hl 0 rfl) ?_
    refine lv_bipush (v := (-9)) hx hb (dd_of dL_law_9 34 rfl) (by decide) ?_
    refine lv_icmp_eq (tgt := 804) hx hb (dd_of dL_law_9 35 rfl) (by decide) (fun c1 => ?_) (fun c1 => absurd rfl c1)
    refine lv_iconst (v := 1) hx hb (dd_of dL_law_10 8 rfl) (by decide) ?_
    refine lv_goto (tgt := 809) hx hb (dd_of dL_law_10 9 rfl) (by decide) ?_
    refine lv_istore (lv' := [(7, .int 1), (15, .int (-9)), (14, .int (F 31 j)), (13, .int q), (12, .int (nI bk)), (11, .int so), (10, .int v), (9, .int (nI k)), (8, .int (nI tt)), (6, .int (nI ny)), (5, .int (nI nd)), (4, .int (nI np)), (3, .int (nI ng)), (2, .int (nI nb)), (1, .ref h0), (0, .ref sa)]) hx hb (dd_of dL_law_10 11 rfl) hl (by decide) rfl (fun ls hl => ?_)
    refine lv_goto (tgt := 1214) hx hb (dd_of dL_law_10 12 rfl) (by decide) ?_
    exact kk B B2 ng np nd ny t F G F2 G2 M FM GM H locs ls _ _ (LI_up hI (by omega)) ⟨by omega, by omega, by omega, by omega⟩ hV hD hS (lv_sub hl [0, 7, 8, 9, 10, 11, 12, 13, 14, 15] rfl) (show cells + 9 + 9 ≤ cells + 90 by omega) (show slots + 64 + 64 ≤ slots + 600 by omega)
