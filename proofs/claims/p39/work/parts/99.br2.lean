-- the law's turns: commands
set_option maxHeartbeats 4000000 in
set_option maxRecDepth 100000 in
theorem br_command {p : Program} {l : Launch} {e : Env} {s : State} {m : MethodId} {args : Array Value} {below : List Frame} {meth : Method} {c : Code} {Q : State → Prop} {c0 : Cond} {D : va_G} {yy : Nat → ClassId} {Z : Nat → Prop} (hl9 : l.stackTraces = false) (h0 an sa : Nat) (hx : p.tables.exec = Jvm.exec) (hb : c.code = cL_law) (hml : c.maxLocals = 19) (hown : s.vm.findClass RL = some m.cls) (hts : ∀ w ∈ c0 :: wsL_law, w.before args s = true) (hK : va_K D vwCl (jT yy) s) (hT : jTP Z s) (hN : jNc s) (hA : ∀ q, s.heap.size ≤ q → Z q) (B B2 : Nat → Nat) {N nb ng np nd ny t tt k : Nat} {F F2 : jF} {G G2 : jG} {M FM : jF} {GM : jG} (hI : LI N nb ng np nd ny t F G F2 G2 M FM GM) (hnb : 2 ≤ nb ∧ nb ≤ 4) (hN3 : N + 3 ≤ 500) (ht9 : t + 12 ≤ 9000) (hcn : ng ≤ 8 ∧ np ≤ 8 ∧ nd ≤ 8) {H : Heap} {locs : List Loc} {cells slots : Nat} {ls : Array Slot} (hV : va_P D vwCl (pV yy h0 an B B2 F G F2 G2 M) H) (hD : va_D Z (pV yy h0 an B B2 F G F2 G2 M)) (hS : va_S Z s.heap H locs) {v so q : Int32} {bk : Nat} (hbk : bk < nb) (hq : eo F q) (hl : lv_has ls 19 [(13, .int q), (12, .int (nI bk)), (11, .int so), (10, .int v), (7, .int 1), (9, .int (nI k)), (8, .int (nI tt)), (6, .int (nI ny)), (5, .int (nI nd)), (4, .int (nI np)), (3, .int (nI ng)), (2, .int (nI nb)), (1, .ref h0), (0, .ref sa)]) (hce : cells ≤ 300000) (hsl : slots ≤ 3000000) (hg0 : 0 < ng) (kk : ∀ (B1 B3 : Nat → Nat) (g1 p1 d1 y1 t1 : Nat) (F1 : jF) (G1 : jG) (F3 : jF) (G3 : jG) (M1 FM1 : jF) (GM1 : jG) (H : Heap) (locs : List Loc) (ls : Array Slot) (ce sl : Nat), LI (N + 2) nb g1 p1 d1 y1 t1 F1 G1 F3 G3 M1 FM1 GM1 → (g1 ≤ 8 ∧ p1 ≤ 8 ∧ d1 ≤ 8 ∧ t1 ≤ t + 12) → va_P D vwCl (pV yy h0 an B1 B3 F1 G1 F3 G3 M1) H → va_D Z (pV yy h0 an B1 B3 F1 G1 F3 G3 M1) → va_S Z s.heap H locs → lv_has ls 19 [(7, .int 1), (9, .int (nI k)), (8, .int (nI tt)), (6, .int (nI y1)), (5, .int (nI d1)), (4, .int (nI p1)), (3, .int (nI g1)), (2, .int (nI nb)), (1, .ref h0), (0, .ref sa)] → ce ≤ cells + 90 → sl ≤ slots + 600 → W p l e rmLaw s m args below meth c H locs ce sl Q (F0 m 1214 ls [])) : W p l e rmLaw s m args below meth c H locs cells slots Q (F0 m 501 ls []) := by
  obtain ⟨⟨b9, n9, hRR⟩, -, hc0, hc8, hc17, hc23, hc32, hc1⟩ := LI_rr hI
  refine lv_iload hx hb (dd_of dL_law_6 17 rfl) (lv_at hl 3 rfl) ?_
  refine lv_iconst (v := 4) hx hb (dd_of dL_law_6 18 rfl) (by decide) ?_
  refine lv_ishr hx hb (dd_of dL_law_6 19 rfl) ?_
  refine lv_iload_n hx hb (dd_of dL_law_6 20 rfl) rfl (lv_at hl 10 rfl) ?_
  obtain ⟨j, h_j, e_j⟩ := low_n (v >>> (4 &&& 31)) (n := ng) (by omega) (by omega)
  have e_j : lowv (v >>> (4 &&& 31)) (nI ng) = nI j := e_j
  refine jc_si (As := [.int (v >>> (4 &&& 31)), .int (nI ng)]) (rest := []) ⟨hx, hb, hml, hown, hts⟩ (qL_low l (v >>> (4 &&& 31)) (nI ng) (nI_nz (by omega) (by omega))) (va_cwS 2 hts (jgSo gw2006 gw2007 gw173 gw2008) rfl rfl rfl (by decide +kernel) ⟨Nat.le_of_ble_eq_true rfl, Nat.le_of_ble_eq_true rfl⟩) rfl hl.1 rfl (Nat.le_of_ble_eq_true rfl) (dd_of dL_law_6 21 rfl) ⟨(show cells ≤ 600086 by omega), (show slots ≤ 7301442 by omega)⟩ (fun a1 ea1 => ?_)
  rw [e_j] at ea1
  subst ea1
  refine lv_istore (lv' := [(14, .int (nI j)), (13, .int q), (12, .int (nI bk)), (11, .int so), (10, .int v), (7, .int 1), (9, .int (nI k)), (8, .int (nI tt)), (6, .int (nI ny)), (5, .int (nI nd)), (4, .int (nI np)), (3, .int (nI ng)), (2, .int (nI nb)), (1, .ref h0), (0, .ref sa)]) hx hb (dd_of dL_law_6 22 rfl) hl (by decide) rfl (fun ls hl => ?_)
  refine lv_aload_n hx hb (dd_of dL_law_6 23 rfl) rfl (lv_at hl 13 rfl) ?_
  refine lv_iload hx hb (dd_of dL_law_6 24 rfl) (lv_at hl 0 rfl) ?_
  obtain ⟨io1, io2, io3⟩ := gx_isOpen hRR M (k := j) (by omega)
  refine kr_i (As := [.int (nI j)]) (rest := []) (D := D) (yy := yy) (P0 := pV yy h0 an B B2 F G F2 G2 M) (gc := (gX11_isOpen F G M (nI j)).1) ⟨hx, hb, hml, hown, hts⟩ (qX11_isOpen l hl9 D yy h0 an B B2 F G F2 G2 M H.size (nI j) io1) (congrArg Prod.fst io2) (cwV 1 hts (jgV gw2020 gw1040 gw1041 gw2 gw1042) rfl rfl rfl (by decide +kernel) ⟨Nat.le_of_ble_eq_true rfl, Nat.le_of_ble_eq_true rfl⟩) hV hK hT hS hA (va_recv hK hV (ci := 11) (q0 := 0) rfl rfl) rfl hl.1 rfl (Nat.le_of_ble_eq_true rfl) (dd_of dL_law_6 25 rfl) ⟨(show cells + 9 ≤ 600086 by omega), (show slots + 64 ≤ 7301442 by omega)⟩ (fun x2 H locs hp hV hS => ?_)
  have ex9 : (F 22 j) = x2 := (congrArg Prod.snd ((hp : gX11_isOpen F G M (nI j) = (0, x2)).symm.trans io2)).symm
  subst ex9
  refine lv_istore (lv' := [(15, .int (F 22 j)), (14, .int (nI j)), (13, .int q), (12, .int (nI bk)), (11, .int so), (10, .int v), (7, .int 1), (9, .int (nI k)), (8, .int (nI tt)), (6, .int (nI ny)), (5, .int (nI nd)), (4, .int (nI np)), (3, .int (nI ng)), (2, .int (nI nb)), (1, .ref h0), (0, .ref sa)]) hx hb (dd_of dL_law_6 26 rfl) hl (by decide) rfl (fun ls hl => ?_)
  refine lv_iload hx hb (dd_of dL_law_6 27 rfl) (lv_at hl 5 rfl) ?_
  refine lv_iconst (v := 2) hx hb (dd_of dL_law_6 28 rfl) (by decide) ?_
  refine jc_si (As := [.int v, .int 2]) (rest := []) ⟨hx, hb, hml, hown, hts⟩ (qL_low l v 2 (by decide)) (va_cwS 2 hts (jgSo gw2006 gw2007 gw173 gw2008) rfl rfl rfl (by decide +kernel) ⟨Nat.le_of_ble_eq_true rfl, Nat.le_of_ble_eq_true rfl⟩) rfl hl.1 rfl (Nat.le_of_ble_eq_true rfl) (dd_of dL_law_6 29 rfl) ⟨(show cells + 9 ≤ 600086 by omega), (show slots + 64 ≤ 7301442 by omega)⟩ (fun a3 ea3 => ?_)
  have ba3 := low_b v (n := 2) (by decide)
  rw [← ea3] at ba3
  have join : ∀ o : Int32, (o = 0 ∨ o = 1) → W p l e rmLaw s m args below meth c H locs (cells + 9) (slots + 64) Q (F0 m 533 ls (.int o :: [])) := by
    intro o ho
    refine lv_istore (lv' := [(16, .int o), (15, .int (F 22 j)), (14, .int (nI j)), (13, .int q), (12, .int (nI bk)), (11, .int so), (10, .int v), (7, .int 1), (9, .int (nI k)), (8, .int (nI tt)), (6, .int (nI ny)), (5, .int (nI nd)), (4, .int (nI np)), (3, .int (nI ng)), (2, .int (nI nb)), (1, .ref h0), (0, .ref sa)]) hx hb (dd_of dL_law_6 34 rfl) hl (by decide) rfl (fun ls hl => ?_)
    refine lv_aload_n hx hb (dd_of dL_law_6 35 rfl) rfl (lv_at hl 15 rfl) ?_
    refine lv_iload hx hb (dd_of dL_law_6 36 rfl) (lv_at hl 2 rfl) ?_
    refine lv_iload hx hb (dd_of dL_law_6 37 rfl) (lv_at hl 0 rfl) ?_
    refine lv_iload hx hb (dd_of dL_law_6 38 rfl) (lv_at hl 6 rfl) ?_
    refine lv_bipush (v := 7) hx hb (dd_of dL_law_6 39 rfl) (by decide) ?_
    refine lv_ishr hx hb (dd_of dL_law_7 0 rfl) ?_
    refine lv_iconst (v := 4) hx hb (dd_of dL_law_7 1 rfl) (by decide) ?_
    refine jc_si (As := [.int (v >>> (7 &&& 31)), .int 4]) (rest := [.int o, .int (nI j), .ref h0]) ⟨hx, hb, hml, hown, hts⟩ (qL_low l (v >>> (7 &&& 31)) 4 (by decide)) (va_cwS 2 hts (jgSo gw2006 gw2007 gw173 gw2008) rfl rfl rfl (by decide +kernel) ⟨Nat.le_of_ble_eq_true rfl, Nat.le_of_ble_eq_true rfl⟩) rfl hl.1 rfl (Nat.le_of_ble_eq_true rfl) (dd_of dL_law_7 2 rfl) ⟨(show cells + 9 ≤ 600086 by omega), (show slots + 64 ≤ 7301442 by omega)⟩ (fun a4 ea4 => ?_)
    have ba4 := low_b (v >>> (7 &&& 31)) (n := 4) (by decide)
    rw [← ea4] at ba4
    have r2 := rng0 ba4 (M := 3) (by decide)
    obtain ⟨ok, x9, F1, G1, M1, FM1, GM1, eq, ⟨hx0, hx3⟩, hz, hnz, hI1⟩ := fe_command hI (by omega) h_j ho r2.1 r2.2
    refine ka_i (As := [.int (nI j), .int o, .int a4]) (rest := []) (D := D) (yy := yy) (P0 := pV yy h0 an B B2 F G F2 G2 M) (gc := (gX11_command F G M (nI j) o a4).1) (w1 := fun u : ((Nat → Nat) × jS) × jF => pV yy h0 an u.1.1 B2 u.1.2.1 u.1.2.2 F2 G2 u.2) ⟨hx, hb, hml, hown, hts⟩ (qX11_command l hl9 D yy h0 an B B2 F G F2 G2 M H.size (nI j) o a4 ok) (cwV 3 hts (jgV gw2021 gw765 gw766 gw2 gw767) rfl rfl rfl (by decide +kernel) ⟨Nat.le_of_ble_eq_true rfl, Nat.le_of_ble_eq_true rfl⟩) hV hK hT hD hS hA (va_recv hK hV (ci := 11) (q0 := 0) rfl rfl) rfl hl.1 rfl (Nat.le_of_ble_eq_true rfl) (dd_of dL_law_7 3 rfl) ⟨(show cells + 9 + 9 ≤ 600086 by omega), (show slots + 64 + 64 ≤ 7301442 by omega)⟩ (fun E ce q9 H locs hg0 _ _ _ _ _ _ => absurd (congrArg Prod.fst eq) hg0) (fun x5 u H locs hp hV hD hS => ?_)
    obtain ⟨⟨B1, F9, G9⟩, M9⟩ := u
    obtain ⟨hp, -⟩ := hp
    have e9 := (hp : gX11_command F G M (nI j) o a4 = (0, (x5, ((F9, G9), M9)))).symm.trans eq
    have ex : x9 = x5 := (congrArg (fun z : Nat × (Int32 × (jS × jF)) => z.2.1) e9).symm
    have eF : F1 = F9 := (congrArg (fun z : Nat × (Int32 × (jS × jF)) => z.2.2.1.1) e9).symm
    have eG : G1 = G9 := (congrArg (fun z : Nat × (Int32 × (jS × jF)) => z.2.2.1.2) e9).symm
    have eM : M1 = M9 := (congrArg (fun z : Nat × (Int32 × (jS × jF)) => z.2.2.2) e9).symm
    subst ex
    subst eF
    subst eG
    subst eM
    have hV : va_P D vwCl (pV yy h0 an B1 B2 F1 G1 F2 G2 M1) H := hV
    have hD : va_D Z (pV yy h0 an B1 B2 F1 G1 F2 G2 M1) := hD
    refine lv_istore (lv' := [(17, .int x9), (16, .int o), (15, .int (F 22 j)), (14, .int (nI j)), (13, .int q), (12, .int (nI bk)), (11, .int so), (10, .int v), (7, .int 1), (9, .int (nI k)), (8, .int (nI tt)), (6, .int (nI ny)), (5, .int (nI nd)), (4, .int (nI np)), (3, .int (nI ng)), (2, .int (nI nb)), (1, .ref h0), (0, .ref sa)]) hx hb (dd_of dL_law_7 4 rfl) hl (by decide) rfl (fun ls hl => ?_)
    refine lv_iload hx hb (dd_of dL_law_7 5 rfl) (lv_at hl 0 rfl) ?_
    refine lv_if_lt (tgt := 590) hx hb (dd_of dL_law_7 6 rfl) (by decide) (fun c1 => absurd c1 hx0) (fun c1 => ?_)
    refine lv_iload hx hb (dd_of dL_law_7 7 rfl) (lv_at hl 0 rfl) ?_
    refine lv_iconst (v := 3) hx hb (dd_of dL_law_7 8 rfl) (by decide) ?_
    refine lv_icmp_gt (tgt := 590) hx hb (dd_of dL_law_7 9 rfl) (by decide) (fun c1 => absurd c1 hx3) (fun c1 => ?_)
    refine lv_aload_n hx hb (dd_of dL_law_7 10 rfl) rfl (lv_at hl 16 rfl) ?_
    refine lv_iload hx hb (dd_of dL_law_7 11 rfl) (lv_at hl 3 rfl) ?_
    obtain ⟨⟨b8, n8, hRR1⟩, -, -, -, hc17b, -, -, -⟩ := LI_rr hI1
    obtain ⟨jo1, jo2, jo3⟩ := gx_isOpen hRR1 M1 (k := j) (by omega)
    refine kr_i (As := [.int (nI j)]) (rest := []) (D := D) (yy := yy) (P0 := pV yy h0 an B1 B2 F1 G1 F2 G2 M1) (gc := (gX11_isOpen F1 G1 M1 (nI j)).1) ⟨hx, hb, hml, hown, hts⟩ (qX11_isOpen l hl9 D yy h0 an B1 B2 F1 G1 F2 G2 M1 H.size (nI j) jo1) (congrArg Prod.fst jo2) (cwV 1 hts (jgV gw2020 gw1040 gw1041 gw2 gw1042) rfl rfl rfl (by decide +kernel) ⟨Nat.le_of_ble_eq_true rfl, Nat.le_of_ble_eq_true rfl⟩) hV hK hT hS hA (va_recv hK hV (ci := 11) (q0 := 0) rfl rfl) rfl hl.1 rfl (Nat.le_of_ble_eq_true rfl) (dd_of dL_law_7 12 rfl) ⟨(show cells + 9 + 9 + 9 ≤ 600086 by omega), (show slots + 64 + 64 + 64 ≤ 7301442 by omega)⟩ (fun x6 H locs hp hV hS => ?_)
    have ex9 : (F1 22 j) = x6 := (congrArg Prod.snd ((hp : gX11_isOpen F1 G1 M1 (nI j) = (0, x6)).symm.trans jo2)).symm
    subst ex9
    refine lv_iload hx hb (dd_of dL_law_7 13 rfl) (lv_at hl 0 rfl) ?_
    refine lv_if_ne (tgt := 581) hx hb (dd_of dL_law_7 14 rfl) (by decide) (fun c1 => ?_) (fun c1 => ?_)
    · skip
      refine lv_iload hx hb (dd_of dL_law_7 17 rfl) (lv_at hl 2 rfl) ?_
      refine lv_icmp_ne (tgt := 590) hx hb (dd_of dL_law_7 18 rfl) (by decide) (fun c2 => absurd (hnz c1) c2) (fun c2 => ?_)
      refine lv_iconst (v := 1) hx hb (dd_of dL_law_7 19 rfl) (by decide) ?_
      refine lv_goto (tgt := 591) hx hb (dd_of dL_law_7 20 rfl) (by decide) ?_
      refine lv_istore (lv' := [(7, .int 1), (17, .int x9), (16, .int o), (15, .int (F 22 j)), (14, .int (nI j)), (13, .int q), (12, .int (nI bk)), (11, .int so), (10, .int v), (9, .int (nI k)), (8, .int (nI tt)), (6, .int (nI ny)), (5, .int (nI nd)), (4, .int (nI np)), (3, .int (nI ng)), (2, .int (nI nb)), (1, .ref h0), (0, .ref sa)]) hx hb (dd_of dL_law_7 22 rfl) hl (by decide) rfl (fun ls hl => ?_)
      refine lv_goto (tgt := 1214) hx hb (dd_of dL_law_7 23 rfl) (by decide) ?_
      exact kk B1 B2 ng np nd ny t F1 G1 F2 G2 M1 FM1 GM1 H locs ls _ _ (LI_up hI1 (by omega)) ⟨by omega, by omega, by omega, by omega⟩ hV hD hS (lv_sub hl [0, 9, 10, 11, 12, 13, 14, 15, 16, 17] rfl) (show cells + 9 + 9 + 9 ≤ cells + 90 by omega) (show slots + 64 + 64 + 64 ≤ slots + 600 by omega)
    · skip
      refine lv_iload hx hb (dd_of dL_law_7 15 rfl) (lv_at hl 1 rfl) ?_
      refine lv_goto (tgt := 583) hx hb (dd_of dL_law_7 16 rfl) (by decide) ?_
      refine lv_icmp_ne (tgt := 590) hx hb (dd_of dL_law_7 18 rfl) (by decide) (fun c2 => absurd (hz c1) c2) (fun c2 => ?_)
      refine lv_iconst (v := 1) hx hb (dd_of dL_law_7 19 rfl) (by decide) ?_
      refine lv_goto (tgt := 591) hx hb (dd_of dL_law_7 20 rfl) (by decide) ?_
      refine lv_istore (lv' := [(7, .int 1), (17, .int x9), (16, .int o), (15, .int (F 22 j)), (14, .int (nI j)), (13, .int q), (12, .int (nI bk)), (11, .int so), (10, .int v), (9, .int (nI k)), (8, .int (nI tt)), (6, .int (nI ny)), (5, .int (nI nd)), (4, .int (nI np)), (3, .int (nI ng)), (2, .int (nI nb)), (1, .ref h0), (0, .ref sa)]) hx hb (dd_of dL_law_7 22 rfl) hl (by decide) rfl (fun ls hl => ?_)
      refine lv_goto (tgt := 1214) hx hb (dd_of dL_law_7 23 rfl) (by decide) ?_
      exact kk B1 B2 ng np nd ny t F1 G1 F2 G2 M1 FM1 GM1 H locs ls _ _ (LI_up hI1 (by omega)) ⟨by omega, by omega, by omega, by omega⟩ hV hD hS (lv_sub hl [0, 9, 10, 11, 12, 13, 14, 15, 16, 17] rfl) (show cells + 9 + 9 + 9 ≤ cells + 90 by omega) (show slots + 64 + 64 + 64 ≤ slots + 600 by omega)
  refine lv_if_ne (tgt := 532) hx hb (dd_of dL_law_6 30 rfl) (by decide) (fun c1 => ?_) (fun c1 => ?_)
  · skip
    refine lv_iconst (v := 0) hx hb (dd_of dL_law_6 33 rfl) (by decide) ?_
    exact join 0 (Or.inl rfl)
  · skip
    refine lv_iconst (v := 1) hx hb (dd_of dL_law_6 31 rfl) (by decide) ?_
    refine lv_goto (tgt := 533) hx hb (dd_of dL_law_6 32 rfl) (by decide) ?_
    exact join 1 (Or.inr rfl)
