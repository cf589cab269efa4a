-- the law's turns: crews, roads, works
set_option maxHeartbeats 4000000 in
set_option maxRecDepth 100000 in
theorem br_send {p : Program} {l : Launch} {e : Env} {s : State} {m : MethodId} {args : Array Value} {below : List Frame} {meth : Method} {c : Code} {Q : State → Prop} {c0 : Cond} {D : va_G} {yy : Nat → ClassId} {Z : Nat → Prop} (hl9 : l.stackTraces = false) (h0 an sa : Nat) (hx : p.tables.exec = Jvm.exec) (hb : c.code = cL_law) (hml : c.maxLocals = 19) (hown : s.vm.findClass RL = some m.cls) (hts : ∀ w ∈ c0 :: wsL_law, w.before args s = true) (hK : va_K D vwCl (jT yy) s) (hT : jTP Z s) (hN : jNc s) (hA : ∀ q, s.heap.size ≤ q → Z q) (B B2 : Nat → Nat) {N nb ng np nd ny t tt k : Nat} {F F2 : jF} {G G2 : jG} {M FM : jF} {GM : jG} (hI : LI N nb ng np nd ny t F G F2 G2 M FM GM) (hnb : 2 ≤ nb ∧ nb ≤ 4) (hN3 : N + 3 ≤ 500) (ht9 : t + 12 ≤ 9000) (hcn : ng ≤ 8 ∧ np ≤ 8 ∧ nd ≤ 8) {H : Heap} {locs : List Loc} {cells slots : Nat} {ls : Array Slot} (hV : va_P D vwCl (pV yy h0 an B B2 F G F2 G2 M) H) (hD : va_D Z (pV yy h0 an B B2 F G F2 G2 M)) (hS : va_S Z s.heap H locs) {v so q : Int32} {bk : Nat} (hbk : bk < nb) (hq : eo F q) (hl : lv_has ls 19 [(13, .int q), (12, .int (nI bk)), (11, .int so), (10, .int v), (7, .int 1), (9, .int (nI k)), (8, .int (nI tt)), (6, .int (nI ny)), (5, .int (nI nd)), (4, .int (nI np)), (3, .int (nI ng)), (2, .int (nI nb)), (1, .ref h0), (0, .ref sa)]) (hce : cells ≤ 300000) (hsl : slots ≤ 3000000) (hd0 : 0 < nd) (kk : ∀ (B1 B3 : Nat → Nat) (g1 p1 d1 y1 t1 : Nat) (F1 : jF) (G1 : jG) (F3 : jF) (G3 : jG) (M1 FM1 : jF) (GM1 : jG) (H : Heap) (locs : List Loc) (ls : Array Slot) (ce sl : Nat), LI (N + 2) nb g1 p1 d1 y1 t1 F1 G1 F3 G3 M1 FM1 GM1 → (g1 ≤ 8 ∧ p1 ≤ 8 ∧ d1 ≤ 8 ∧ t1 ≤ t + 12) → va_P D vwCl (pV yy h0 an B1 B3 F1 G1 F3 G3 M1) H → va_D Z (pV yy h0 an B1 B3 F1 G1 F3 G3 M1) → va_S Z s.heap H locs → lv_has ls 19 [(7, .int 1), (9, .int (nI k)), (8, .int (nI tt)), (6, .int (nI y1)), (5, .int (nI d1)), (4, .int (nI p1)), (3, .int (nI g1)), (2, .int (nI nb)), (1, .ref h0), (0, .ref sa)] → ce ≤ cells + 90 → sl ≤ slots + 600 → W p l e rmLaw s m args below meth c H locs ce sl Q (F0 m 1214 ls [])) : W p l e rmLaw s m args below meth c H locs cells slots Q (F0 m 826 ls []) := by
  obtain ⟨⟨b9, n9, hRR⟩, -, hc0, hc8, hc17, hc23, hc32, hc1⟩ := LI_rr hI
  refine lv_aload_n hx hb (dd_of dL_law_10 18 rfl) rfl (lv_at hl 12 rfl) ?_
  refine lv_iconst (v := 2) hx hb (dd_of dL_law_10 19 rfl) (by decide) ?_
  refine lv_iload hx hb (dd_of dL_law_10 20 rfl) (lv_at hl 3 rfl) ?_
  refine lv_iconst (v := 3) hx hb (dd_of dL_law_10 21 rfl) (by decide) ?_
  obtain ⟨jc, h_jc, e_jc⟩ := low_n v (n := 3) (by omega) (by omega)
  have e_jc : lowv v 3 = nI jc := e_jc
  refine jc_si (As := [.int v, .int 3]) (rest := [.int 2, .ref h0]) ⟨hx, hb, hml, hown, hts⟩ (qL_low l v 3 (by decide)) (va_cwS 2 hts (jgSo gw2006 gw2007 gw173 gw2008) rfl rfl rfl (by decide +kernel) ⟨Nat.le_of_ble_eq_true rfl, Nat.le_of_ble_eq_true rfl⟩) rfl hl.1 rfl (Nat.le_of_ble_eq_true rfl) (dd_of dL_law_10 22 rfl) ⟨(show cells ≤ 600086 by omega), (show slots ≤ 7301442 by omega)⟩ (fun a1 ea1 => ?_)
  rw [e_jc] at ea1
  subst ea1
  refine lv_iload hx hb (dd_of dL_law_10 23 rfl) (lv_at hl 3 rfl) ?_
  refine lv_iconst (v := 4) hx hb (dd_of dL_law_10 24 rfl) (by decide) ?_
  refine lv_ishr hx hb (dd_of dL_law_10 25 rfl) ?_
  refine lv_iload hx hb (dd_of dL_law_10 26 rfl) (lv_at hl 8 rfl) ?_
  obtain ⟨jd, h_jd, e_jd⟩ := low_n (v >>> (4 &&& 31)) (n := nd) (by omega) (by omega)
  have e_jd : lowv (v >>> (4 &&& 31)) (nI nd) = nI jd := e_jd
  refine jc_si (As := [.int (v >>> (4 &&& 31)), .int (nI nd)]) (rest := [.int (nI jc), .int 2, .ref h0]) ⟨hx, hb, hml, hown, hts⟩ (qL_low l (v >>> (4 &&& 31)) (nI nd) (nI_nz (by omega) (by omega))) (va_cwS 2 hts (jgSo gw2006 gw2007 gw173 gw2008) rfl rfl rfl (by decide +kernel) ⟨Nat.le_of_ble_eq_true rfl, Nat.le_of_ble_eq_true rfl⟩) rfl hl.1 rfl (Nat.le_of_ble_eq_true rfl) (dd_of dL_law_10 27 rfl) ⟨(show cells ≤ 600086 by omega), (show slots ≤ 7301442 by omega)⟩ (fun a2 ea2 => ?_)
  rw [e_jd] at ea2
  subst ea2
  refine lv_iload hx hb (dd_of dL_law_10 28 rfl) (lv_at hl 3 rfl) ?_
  refine lv_bipush (v := 9) hx hb (dd_of dL_law_10 29 rfl) (by decide) ?_
  refine lv_ishr hx hb (dd_of dL_law_10 30 rfl) ?_
  refine lv_bipush (v := 12) hx hb (dd_of dL_law_10 31 rfl) (by decide) ?_
  refine jc_si (As := [.int (v >>> (9 &&& 31)), .int 12]) (rest := [.int (nI jd), .int (nI jc), .int 2, .ref h0]) ⟨hx, hb, hml, hown, hts⟩ (qL_low l (v >>> (9 &&& 31)) 12 (by decide)) (va_cwS 2 hts (jgSo gw2006 gw2007 gw173 gw2008) rfl rfl rfl (by decide +kernel) ⟨Nat.le_of_ble_eq_true rfl, Nat.le_of_ble_eq_true rfl⟩) rfl hl.1 rfl (Nat.le_of_ble_eq_true rfl) (dd_of dL_law_10 32 rfl) ⟨(show cells ≤ 600086 by omega), (show slots ≤ 7301442 by omega)⟩ (fun a3 ea3 => ?_)
  have ba3 := low_b (v >>> (9 &&& 31)) (n := 12) (by decide)
  rw [← ea3] at ba3
  have r2 := rng0 ba3 (M := 99) (by decide)
  obtain ⟨ok, hfe⟩ := fe_send hI (by omega) h_jc h_jd r2.1 r2.2
  have hcod : (gX11_send F G M (nI jc) (nI jd) a3).1 = 0 ∨ (gX11_send F G M (nI jc) (nI jd) a3).1 = 3 := hfe.elim (fun ⟨_, _, _, _, _, _, e, _⟩ => Or.inl (congrArg Prod.fst e)) (fun q => Or.inr q)
  refine kw_i (As := [.ref h0, .int 2, .int (nI jc), .int (nI jd), .int a3]) (rest := []) (D := D) (yy := yy) (P0 := pV yy h0 an B B2 F G F2 G2 M) (w1 := fun u : ((Nat → Nat) × jS) × jF => pV yy h0 an u.1.1 B2 u.1.2.1 u.1.2.2 F2 G2 u.2) ⟨hx, hb, hml, hown, hts⟩ (qL_acts_send l hl9 D yy h0 an B B2 F G F2 G2 M H.size (nI jc) (nI jd) a3 ok hcod) (vx_cwSW 5 hts (jgW gw2024 gw2025 gw173 gw2026) rfl rfl rfl (by decide +kernel) ⟨Nat.le_of_ble_eq_true rfl, Nat.le_of_ble_eq_true rfl⟩) hV hK hT hN hD hS hA rfl hl.1 rfl (Nat.le_of_ble_eq_true rfl) (dd_of dL_law_10 33 rfl) ⟨(show cells + 9 ≤ 600086 by omega), (show slots + 64 ≤ 7301442 by omega)⟩ (fun x4 u H locs hp hV hD hS => ?_)
  obtain ⟨⟨B1, F9, G9⟩, M9⟩ := u
  obtain ⟨hp, -⟩ := hp
  have hp : gX11_send F G M (nI jc) (nI jd) a3 = (0, (x4, ((F9, G9), M9))) ∨ ((gX11_send F G M (nI jc) (nI jd) a3).1 = 3 ∧ x4 = -9 ∧ ((B1, (F9, G9)), M9) = ((B, (F, G)), M)) := hp
  have hV : va_P D vwCl (pV yy h0 an B1 B2 F9 G9 F2 G2 M9) H := hV
  have hD : va_D Z (pV yy h0 an B1 B2 F9 G9 F2 G2 M9) := hD
  rcases hfe with ⟨x9, F1, G1, M1, FM1, GM1, eq, hx0, h50, h64, hI1⟩ | cod
  · skip
    have hp := hp.resolve_right (fun q => absurd (show (0 : Nat) = 3 from (congrArg Prod.fst eq).symm.trans q.1) (by decide))
    have e9 := hp.symm.trans eq
    have ex : x9 = x4 := (congrArg (fun z : Nat × (Int32 × (jS × jF)) => z.2.1) e9).symm
    have eF : F1 = F9 := (congrArg (fun z : Nat × (Int32 × (jS × jF)) => z.2.2.1.1) e9).symm
    have eG : G1 = G9 := (congrArg (fun z : Nat × (Int32 × (jS × jF)) => z.2.2.1.2) e9).symm
    have eM : M1 = M9 := (congrArg (fun z : Nat × (Int32 × (jS × jF)) => z.2.2.2) e9).symm
    subst ex
    subst eF
    subst eG
    subst eM
    refine lv_istore (lv' := [(14, .int x9), (13, .int q), (12, .int (nI bk)), (11, .int so), (10, .int v), (7, .int 1), (9, .int (nI k)), (8, .int (nI tt)), (6, .int (nI ny)), (5, .int (nI nd)), (4, .int (nI np)), (3, .int (nI ng)), (2, .int (nI nb)), (1, .ref h0), (0, .ref sa)]) hx hb (dd_of dL_law_10 34 rfl) hl (by decide) rfl (fun ls hl => ?_)
    refine lv_iload hx hb (dd_of dL_law_10 35 rfl) (lv_at hl 0 rfl) ?_
    refine lv_bipush (v := (-9)) hx hb (dd_of dL_law_10 36 rfl) (by decide) ?_
    refine lv_icmp_eq (tgt := 909) hx hb (dd_of dL_law_10 37 rfl) (by decide) (fun c1 => ?_) (fun c1 => ?_)
    · skip
      refine lv_iconst (v := 1) hx hb (dd_of dL_law_11 20 rfl) (by decide) ?_
      refine lv_goto (tgt := 914) hx hb (dd_of dL_law_11 21 rfl) (by decide) ?_
      refine lv_istore (lv' := [(7, .int 1), (14, .int x9), (13, .int q), (12, .int (nI bk)), (11, .int so), (10, .int v), (9, .int (nI k)), (8, .int (nI tt)), (6, .int (nI ny)), (5, .int (nI nd)), (4, .int (nI np)), (3, .int (nI ng)), (2, .int (nI nb)), (1, .ref h0), (0, .ref sa)]) hx hb (dd_of dL_law_11 23 rfl) hl (by decide) rfl (fun ls hl => ?_)
      refine lv_goto (tgt := 1214) hx hb (dd_of dL_law_11 24 rfl) (by decide) ?_
      exact kk B1 B2 ng np nd ny t F1 G1 F2 G2 M1 FM1 GM1 H locs ls _ _ (LI_up hI1 (by omega)) ⟨by omega, by omega, by omega, by omega⟩ hV hD hS (lv_sub hl [0, 6, 7, 8, 9, 10, 11, 12, 13, 14] rfl) (show cells + 9 ≤ cells + 90 by omega) (show slots + 64 ≤ slots + 600 by omega)
    · skip
      refine lv_iload hx hb (dd_of dL_law_10 38 rfl) (lv_at hl 0 rfl) ?_
      refine lv_if_lt (tgt := 913) hx hb (dd_of dL_law_10 39 rfl) (by decide) (fun c2 => absurd c2 hx0) (fun c2 => ?_)
      refine lv_aload_n hx hb (dd_of dL_law_11 0 rfl) rfl (lv_at hl 13 rfl) ?_
      refine lv_iload hx hb (dd_of dL_law_11 1 rfl) (lv_at hl 4 rfl) ?_
      refine lv_iconst (v := 3) hx hb (dd_of dL_law_11 2 rfl) (by decide) ?_
      refine jc_si (As := [.int v, .int 3]) (rest := [.ref h0]) ⟨hx, hb, hml, hown, hts⟩ (qL_low l v 3 (by decide)) (va_cwS 2 hts (jgSo gw2006 gw2007 gw173 gw2008) rfl rfl rfl (by decide +kernel) ⟨Nat.le_of_ble_eq_true rfl, Nat.le_of_ble_eq_true rfl⟩) rfl hl.1 rfl (Nat.le_of_ble_eq_true rfl) (dd_of dL_law_11 3 rfl) ⟨(show cells + 9 ≤ 600086 by omega), (show slots + 64 ≤ 7301442 by omega)⟩ (fun a5 ea5 => ?_)
      rw [e_jc] at ea5
      subst ea5
      refine lv_iconst (v := 2) hx hb (dd_of dL_law_11 4 rfl) (by decide) ?_
      obtain ⟨⟨b8, n8, hRR1⟩, -, -, -, -, -, -, -⟩ := LI_rr hI1
      obtain ⟨⟨cv1, cv2⟩, cv3, cv4⟩ := gx_crew hRR1 M1 (k := jc) h_jc
      refine kr_i (As := [.int (nI jc), .int 2]) (rest := []) (D := D) (yy := yy) (P0 := pV yy h0 an B1 B2 F1 G1 F2 G2 M1) (gc := (gX11_crew F1 G1 M1 (nI jc) 2).1) ⟨hx, hb, hml, hown, hts⟩ (qX11_crew l hl9 D yy h0 an B1 B2 F1 G1 F2 G2 M1 H.size (nI jc) 2 cv3) (congrArg Prod.fst cv4) (cwV 2 hts (jgV gw2033 gw1080 gw1081 gw2 gw1082) rfl rfl rfl (by decide +kernel) ⟨Nat.le_of_ble_eq_true rfl, Nat.le_of_ble_eq_true rfl⟩) hV hK hT hS hA (va_recv hK hV (ci := 11) (q0 := 0) rfl rfl) rfl hl.1 rfl (Nat.le_of_ble_eq_true rfl) (dd_of dL_law_11 5 rfl) ⟨(show cells + 9 + 9 ≤ 600086 by omega), (show slots + 64 + 64 ≤ 7301442 by omega)⟩ (fun x6 H locs hp hV hS => ?_)
      have ex9 : (F1 64 jc) = x6 := (congrArg Prod.snd ((hp : gX11_crew F1 G1 M1 (nI jc) 2 = (0, x6)).symm.trans cv4)).symm
      subst ex9
      refine lv_iload hx hb (dd_of dL_law_11 6 rfl) (lv_at hl 4 rfl) ?_
      refine lv_iconst (v := 4) hx hb (dd_of dL_law_11 7 rfl) (by decide) ?_
      refine lv_ishr hx hb (dd_of dL_law_11 8 rfl) ?_
      refine lv_iload hx hb (dd_of dL_law_11 9 rfl) (lv_at hl 9 rfl) ?_
      refine jc_si (As := [.int (v >>> (4 &&& 31)), .int (nI nd)]) (rest := [.int (F1 64 jc)]) ⟨hx, hb, hml, hown, hts⟩ (qL_low l (v >>> (4 &&& 31)) (nI nd) (nI_nz (by omega) (by omega))) (va_cwS 2 hts (jgSo gw2006 gw2007 gw173 gw2008) rfl rfl rfl (by decide +kernel) ⟨Nat.le_of_ble_eq_true rfl, Nat.le_of_ble_eq_true rfl⟩) rfl hl.1 rfl (Nat.le_of_ble_eq_true rfl) (dd_of dL_law_11 10 rfl) ⟨(show cells + 9 + 9 ≤ 600086 by omega), (show slots + 64 + 64 ≤ 7301442 by omega)⟩ (fun a7 ea7 => ?_)
      rw [e_jd] at ea7
      subst ea7
      refine lv_icmp_ne (tgt := 913) hx hb (dd_of dL_law_11 11 rfl) (by decide) (fun c2 => absurd h64 c2) (fun c2 => ?_)
      refine lv_aload_n hx hb (dd_of dL_law_11 12 rfl) rfl (lv_at hl 13 rfl) ?_
      refine lv_iload hx hb (dd_of dL_law_11 13 rfl) (lv_at hl 4 rfl) ?_
      refine lv_iconst (v := 3) hx hb (dd_of dL_law_11 14 rfl) (by decide) ?_
      refine jc_si (As := [.int v, .int 3]) (rest := [.ref h0]) ⟨hx, hb, hml, hown, hts⟩ (qL_low l v 3 (by decide)) (va_cwS 2 hts (jgSo gw2006 gw2007 gw173 gw2008) rfl rfl rfl (by decide +kernel) ⟨Nat.le_of_ble_eq_true rfl, Nat.le_of_ble_eq_true rfl⟩) rfl hl.1 rfl (Nat.le_of_ble_eq_true rfl) (dd_of dL_law_11 15 rfl) ⟨(show cells + 9 + 9 ≤ 600086 by omega), (show slots + 64 + 64 ≤ 7301442 by omega)⟩ (fun a8 ea8 => ?_)
      rw [e_jc] at ea8
      subst ea8
      refine lv_iconst (v := 1) hx hb (dd_of dL_law_11 16 rfl) (by decide) ?_
      refine kr_i (As := [.int (nI jc), .int 1]) (rest := []) (D := D) (yy := yy) (P0 := pV yy h0 an B1 B2 F1 G1 F2 G2 M1) (gc := (gX11_crew F1 G1 M1 (nI jc) 1).1) ⟨hx, hb, hml, hown, hts⟩ (qX11_crew l hl9 D yy h0 an B1 B2 F1 G1 F2 G2 M1 H.size (nI jc) 1 cv1) (congrArg Prod.fst cv2) (cwV 2 hts (jgV gw2033 gw1080 gw1081 gw2 gw1082) rfl rfl rfl (by decide +kernel) ⟨Nat.le_of_ble_eq_true rfl, Nat.le_of_ble_eq_true rfl⟩) hV hK hT hS hA (va_recv hK hV (ci := 11) (q0 := 0) rfl rfl) rfl hl.1 rfl (Nat.le_of_ble_eq_true rfl) (dd_of dL_law_11 17 rfl) ⟨(show cells + 9 + 9 + 9 ≤ 600086 by omega), (show slots + 64 + 64 + 64 ≤ 7301442 by omega)⟩ (fun x9 H locs hp hV hS => ?_)
      have ex9 : (F1 50 jc) = x9 := (congrArg Prod.snd ((hp : gX11_crew F1 G1 M1 (nI jc) 1 = (0, x9)).symm.trans cv2)).symm
      subst ex9
      refine lv_iload hx hb (dd_of dL_law_11 18 rfl) (lv_at hl 0 rfl) ?_
      refine lv_icmp_ne (tgt := 913) hx hb (dd_of dL_law_11 19 rfl) (by decide) (fun c2 => absurd h50 c2) (fun c2 => ?_)
      refine lv_iconst (v := 1) hx hb (dd_of dL_law_11 20 rfl) (by decide) ?_
      refine lv_goto (tgt := 914) hx hb (dd_of dL_law_11 21 rfl) (by decide) ?_
      refine lv_istore (lv' := [(7, .int 1), (14, .int x9), (13, .int q), (12, .int (nI bk)), (11, .int so), (10, .int v), (9, .int (nI k)), (8, .int (nI tt)), (6, .int (nI ny)), (5, .int (nI nd)), (4, .int (nI np)), (3, .int (nI ng)), (2, .int (nI nb)), (1, .ref h0), (0, .ref sa)]) hx hb (dd_of dL_law_11 23 rfl) hl (by decide) rfl (fun ls hl => ?_)
      refine lv_goto (tgt := 1214) hx hb (dd_of dL_law_11 24 rfl) (by decide) ?_
      exact kk B1 B2 ng np nd ny t F1 G1 F2 G2 M1 FM1 GM1 H locs ls _ _ (LI_up hI1 (by omega)) ⟨by omega, by omega, by omega, by omega⟩ hV hD hS (lv_sub hl [0, 6, 7, 8, 9, 10, 11, 12, 13, 14] rfl) (show cells + 9 + 9 + 9 ≤ cells + 90 by omega) (show slots + 64 + 64 + 64 ≤ slots + 600 by omega)
  · skip
    have hp := hp.resolve_left (fun q => absurd (show (0 : Nat) = 3 from (congrArg Prod.fst q).symm.trans cod) (by decide))
    have ex : -9 = x4 := hp.2.1.symm
    have hu := hp.2.2
    have eB : B = B1 := (congrArg (fun z : ((Nat → Nat) × jS) × jF => z.1.1) hu).symm
    have eF : F = F9 := (congrArg (fun z : ((Nat → Nat) × jS) × jF => z.1.2.1) hu).symm
    have eG : G = G9 := (congrArg (fun z : ((Nat → Nat) × jS) × jF => z.1.2.2) hu).symm
    have eM : M = M9 := (congrArg (fun z : ((Nat → Nat) × jS) × jF => z.2) hu).symm
    clear hp
    subst ex
    subst eB
    subst eF
    subst eG
    subst eM
    refine lv_istore (lv' := [(14, .int (-9)), (13, .int q), (12, .int (nI bk)), (11, .int so), (10, .int v), (7, .int 1), (9, .int (nI k)), (8, .int (nI tt)), (6, .int (nI ny)), (5, .int (nI nd)), (4, .int (nI np)), (3, .int (nI ng)), (2, .int (nI nb)), (1, .ref h0), (0, .ref sa)]) hx hb (dd_of dL_law_10 34 rfl) hl (by decide) rfl (fun ls hl => ?_)
    refine lv_iload hx hb (dd_of dL_law_10 35 rfl) (lv_at hl 0 rfl) ?_
    refine lv_bipush (v := (-9)) hx hb (dd_of dL_law_10 36 rfl) (by decide) ?_
    refine lv_icmp_eq (tgt := 909) hx hb (dd_of dL_law_10 37 rfl) (by decide) (fun c1 => ?_) (fun c1 => absurd rfl c1)
    refine lv_iconst (v := 1) hx hb (dd_of dL_law_11 20 rfl) (by decide) ?_
    refine lv_goto (tgt := 914) hx hb (dd_of dL_law_11 21 rfl) (by decide) ?_
    refine lv_istore (lv' := [(7, .int 1), (14, .int (-9)), (13, .int q), (12, .int (nI bk)), (11, .int so), (10, .int v), (9, .int (nI k)), (8, .int (nI tt)), (6, .int (nI ny)), (5, .int (nI nd)), (4, .int (nI np)), (3, .int (nI ng)), (2, .int (nI nb)), (1, .ref h0), (0, .ref sa)]) hx hb (dd_of dL_law_11 23 rfl) hl (by decide) rfl (fun ls hl => ?_)
    refine lv_goto (tgt := 1214) hx hb (dd_of dL_law_11 24 rfl) (by decide) ?_
    exact kk B B2 ng np nd ny t F G F2 G2 M FM GM H locs ls _ _ (LI_up hI (by omega)) ⟨by omega, by omega, by omega, by omega⟩ hV hD hS (lv_sub hl [0, 6, 7, 8, 9, 10, 11, 12, 13, 14] rfl) (show cells + 9 ≤ cells + 90 by omega) (show slots + 64 ≤ slots + 600 by omega)
set_option maxHeartbeats 4000000 in
set_option maxRecDepth 100000 in
theorem br_road {p : Program} {l : Launch} {e : Env} {s : State} {m : MethodId} {args : Array Value} {below : List Frame} {meth : Method} {c : Code} {Q : State → Prop} {c0 : Cond} {D : va_G} {yy : Nat → ClassId} {Z : Nat → Prop} (hl9 : l.stackTraces = false) (h0 an sa : Nat) (hx : p.tables.exec = Jvm.exec) (hb : c.code = cL_law) (hml : c.maxLocals = 19) (hown : s.vm.findClass RL = some m.cls) (hts : ∀ w ∈ c0 :: wsL_law, w.before args s = true) (hK : va_K D vwCl (jT yy) s) (hT : jTP Z s) (hN : jNc s) (hA : ∀ q, s.heap.size ≤ q → Z q) (B B2 : Nat → Nat) {N nb ng np nd ny t tt k : Nat} {F F2 : jF} {G G2 : jG} {M FM : jF} {GM : jG} (hI : LI N nb ng np nd ny t F G F2 G2 M FM GM) (hnb : 2 ≤ nb ∧ nb ≤ 4) (hN3 : N + 3 ≤ 500) (ht9 : t + 12 ≤ 9000) (hcn : ng ≤ 8 ∧ np ≤ 8 ∧ nd ≤ 8) {H : Heap} {locs : List Loc} {cells slots : Nat} {ls : Array Slot} (hV : va_P D vwCl (pV yy h0 an B B2 F G F2 G2 M) H) (hD : va_D Z (pV yy h0 an B B2 F G F2 G2 M)) (hS : va_S Z s.heap H locs) {v so q : Int32} {bk : Nat} (hbk : bk < nb) (hq : eo F q) (hl : lv_has ls 19 [(13, .int q), (12, .int (nI bk)), (11, .int so), (10, .int v), (7, .int 1), (9, .int (nI k)), (8, .int (nI tt)), (6, .int (nI ny)), (5, .int (nI nd)), (4, .int (nI np)), (3, .int (nI ng)), (2, .int (nI nb)), (1, .ref h0), (0, .ref sa)]) (hce : cells ≤ 300000) (hsl : slots ≤ 3000000)  (kk : ∀ (B1 B3 : Nat → Nat) (g1 p1 d1 y1 t1 : Nat) (F1 : jF) (G1 : jG) (F3 : jF) (G3 : jG) (M1 FM1 : jF) (GM1 : jG) (H : Heap) (locs : List Loc) (ls : Array Slot) (ce sl : Nat), LI (N + 2) nb g1 p1 d1 y1 t1 F1 G1 F3 G3 M1 FM1 GM1 → (g1 ≤ 8 ∧ p1 ≤ 8 ∧ d1 ≤ 8 ∧ t1 ≤ t + 12) → va_P D vwCl (pV yy h0 an B1 B3 F1 G1 F3 G3 M1) H → va_D Z (pV yy h0 an B1 B3 F1 G1 F3 G3 M1) → va_S Z s.heap H locs → lv_has ls 19 [(7, .int 1), (9, .int (nI k)), (8, .int (nI tt)), (6, .int (nI y1)), (5, .int (nI d1)), (4, .int (nI p1)), (3, .int (nI g1)), (2, .int (nI nb)), (1, .ref h0), (0, .ref sa)] → ce ≤ cells + 90 → sl ≤ slots + 600 → W p l e rmLaw s m args below meth c H locs ce sl Q (F0 m 1214 ls [])) : W p l e rmLaw s m args below meth c H locs cells slots Q (F0 m 926 ls []) := by
  obtain ⟨⟨b9, n9, hRR⟩, -, hc0, hc8, hc17, hc23, hc32, hc1⟩ := LI_rr hI
  have er : (nI bk + 1 - (nI bk + 1) / nI nb * nI nb : Int32) = nI ((bk + 1) % nb) := by
    have e1 : (nI bk + 1 : Int32) = nI (bk + 1) := nI_add bk 1
    rw [e1]
    exact rem_n _ _ (by omega) (by omega) (by omega)
  have hm := Nat.mod_lt (bk + 1) (show 0 < nb by omega)
  have hmn : bk ≠ (bk + 1) % nb := by
    rcases Nat.lt_or_ge (bk + 1) nb with h | h
    · rw [Nat.mod_eq_of_lt h]; omega
    · rw [show bk + 1 = nb by omega, Nat.mod_self]; omega
  refine lv_aload_n hx hb (dd_of dL_law_11 28 rfl) rfl (lv_at hl 12 rfl) ?_
  refine lv_iload hx hb (dd_of dL_law_11 29 rfl) (lv_at hl 1 rfl) ?_
  refine lv_iload hx hb (dd_of dL_law_11 30 rfl) (lv_at hl 1 rfl) ?_
  refine lv_iconst (v := 1) hx hb (dd_of dL_law_11 31 rfl) (by decide) ?_
  refine lv_iadd hx hb (dd_of dL_law_11 32 rfl) ?_
  refine lv_iload_n hx hb (dd_of dL_law_11 33 rfl) rfl (lv_at hl 11 rfl) ?_
  refine lv_irem hx hb (dd_of dL_law_11 34 rfl) (nI_nz (by omega) (by omega)) ?_
  rw [er]
  refine lv_iconst (v := 1) hx hb (dd_of dL_law_11 35 rfl) (by decide) ?_
  obtain ⟨ok, x9, F1, G1, M1, FM1, GM1, eq, -, h16, hI1⟩ := fe_road hI (by omega) hbk hm hmn
  refine ka_i (As := [.int (nI bk), .int (nI ((bk + 1) % nb)), .int 1]) (rest := []) (D := D) (yy := yy) (P0 := pV yy h0 an B B2 F G F2 G2 M) (gc := (gX11_road F G M (nI bk) (nI ((bk + 1) % nb)) 1).1) (w1 := fun u : ((Nat → Nat) × jS) × jF => pV yy h0 an u.1.1 B2 u.1.2.1 u.1.2.2 F2 G2 u.2) ⟨hx, hb, hml, hown, hts⟩ (qX11_road l hl9 D yy h0 an B B2 F G F2 G2 M H.size (nI bk) (nI ((bk + 1) % nb)) 1 ok) (cwV 3 hts (jgV gw2034 gw638 gw639 gw2 gw640) rfl rfl rfl (by decide +kernel) ⟨Nat.le_of_ble_eq_true rfl, Nat.le_of_ble_eq_true rfl⟩) hV hK hT hD hS hA (va_recv hK hV (ci := 11) (q0 := 0) rfl rfl) rfl hl.1 rfl (Nat.le_of_ble_eq_true rfl) (dd_of dL_law_11 36 rfl) ⟨(show cells + 9 ≤ 600086 by omega), (show slots + 64 ≤ 7301442 by omega)⟩ (fun E ce q9 H locs hg0 _ _ _ _ _ _ => absurd (congrArg Prod.fst eq) hg0) (fun x1 u H locs hp hV hD hS => ?_)
  obtain ⟨⟨B1, F9, G9⟩, M9⟩ := u
  obtain ⟨hp, -⟩ := hp
  have e9 := (hp : gX11_road F G M (nI bk) (nI ((bk + 1) % nb)) 1 = (0, (x1, ((F9, G9), M9)))).symm.trans eq
  have ex : x9 = x1 := (congrArg (fun z : Nat × (Int32 × (jS × jF)) => z.2.1) e9).symm
  have eF : F1 = F9 := (congrArg (fun z : Nat × (Int32 × (jS × jF)) => z.2.2.1.1) e9).symm
  have eG : G1 = G9 := (congrArg (fun z : Nat × (Int32 × (jS × jF)) => z.2.2.1.2) e9).symm
  have eM : M1 = M9 := (congrArg (fun z : Nat × (Int32 × (jS × jF)) => z.2.2.2) e9).symm
  subst ex
  subst eF
  subst eG
  subst eM
  have hV : va_P D vwCl (pV yy h0 an B1 B2 F1 G1 F2 G2 M1) H := hV
  have hD : va_D Z (pV yy h0 an B1 B2 F1 G1 F2 G2 M1) := hD
  refine lv_if_eq (tgt := 958) hx hb (dd_of dL_law_11 37 rfl) (by decide) (fun c1 => ?_) (fun c1 => ?_)
  · skip
    refine lv_iconst (v := 1) hx hb (dd_of dL_law_12 8 rfl) (by decide) ?_
    refine lv_goto (tgt := 963) hx hb (dd_of dL_law_12 9 rfl) (by decide) ?_
    refine lv_istore (lv' := [(7, .int 1), (13, .int q), (12, .int (nI bk)), (11, .int so), (10, .int v), (9, .int (nI k)), (8, .int (nI tt)), (6, .int (nI ny)), (5, .int (nI nd)), (4, .int (nI np)), (3, .int (nI ng)), (2, .int (nI nb)), (1, .ref h0), (0, .ref sa)]) hx hb (dd_of dL_law_12 11 rfl) hl (by decide) rfl (fun ls hl => ?_)
    refine lv_goto (tgt := 1214) hx hb (dd_of dL_law_12 12 rfl) (by decide) ?_
    exact kk B1 B2 ng np nd ny t F1 G1 F2 G2 M1 FM1 GM1 H locs ls _ _ (LI_up hI1 (by omega)) ⟨by omega, by omega, by omega, by omega⟩ hV hD hS (lv_sub hl [0, 5, 6, 7, 8, 9, 10, 11, 12, 13] rfl) (show cells + 9 ≤ cells + 90 by omega) (show slots + 64 ≤ slots + 600 by omega)
  · skip
    refine lv_aload_n hx hb (dd_of dL_law_11 38 rfl) rfl (lv_at hl 12 rfl) ?_
    refine lv_iload hx hb (dd_of dL_law_11 39 rfl) (lv_at hl 1 rfl) ?_
    refine lv_iload hx hb (dd_of dL_law_12 0 rfl) (lv_at hl 1 rfl) ?_
    refine lv_iconst (v := 1) hx hb (dd_of dL_law_12 1 rfl) (by decide) ?_
    refine lv_iadd hx hb (dd_of dL_law_12 2 rfl) ?_
    refine lv_iload_n hx hb (dd_of dL_law_12 3 rfl) rfl (lv_at hl 11 rfl) ?_
    refine lv_irem hx hb (dd_of dL_law_12 4 rfl) (nI_nz (by omega) (by omega)) ?_
    rw [er]
    refine lv_iconst (v := 1) hx hb (dd_of dL_law_12 5 rfl) (by decide) ?_
    obtain ⟨ok2, x8, F2b, G2b, M2b, FM2b, GM2b, eq2, hx8, -, hI2b⟩ := fe_road hI1 (by omega) hbk hm hmn
    refine ka_i (As := [.int (nI bk), .int (nI ((bk + 1) % nb)), .int 1]) (rest := []) (D := D) (yy := yy) (P0 := pV yy h0 an B1 B2 F1 G1 F2 G2 M1) (gc := (gX11_road F1 G1 M1 (nI bk) (nI ((bk + 1) % nb)) 1).1) (w1 := fun u : ((Nat → Nat) × jS) × jF => pV yy h0 an u.1.1 B2 u.1.2.1 u.1.2.2 F2 G2 u.2) ⟨hx, hb, hml, hown, hts⟩ (qX11_road l hl9 D yy h0 an B1 B2 F1 G1 F2 G2 M1 H.size (nI bk) (nI ((bk + 1) % nb)) 1 ok2) (cwV 3 hts (jgV gw2034 gw638 gw639 gw2 gw640) rfl rfl rfl (by decide +kernel) ⟨Nat.le_of_ble_eq_true rfl, Nat.le_of_ble_eq_true rfl⟩) hV hK hT hD hS hA (va_recv hK hV (ci := 11) (q0 := 0) rfl rfl) rfl hl.1 rfl (Nat.le_of_ble_eq_true rfl) (dd_of dL_law_12 6 rfl) ⟨(show cells + 9 + 9 ≤ 600086 by omega), (show slots + 64 + 64 ≤ 7301442 by omega)⟩ (fun E ce q9 H locs hg0 _ _ _ _ _ _ => absurd (congrArg Prod.fst eq2) hg0) (fun x2 u H locs hp hV hD hS => ?_)
    obtain ⟨⟨B2b, F9, G9⟩, M9⟩ := u
    obtain ⟨hp, -⟩ := hp
    have e9 := (hp : gX11_road F1 G1 M1 (nI bk) (nI ((bk + 1) % nb)) 1 = (0, (x2, ((F9, G9), M9)))).symm.trans eq2
    have ex : x8 = x2 := (congrArg (fun z : Nat × (Int32 × (jS × jF)) => z.2.1) e9).symm
    have eF : F2b = F9 := (congrArg (fun z : Nat × (Int32 × (jS × jF)) => z.2.2.1.1) e9).symm
    have eG : G2b = G9 := (congrArg (fun z : Nat × (Int32 × (jS × jF)) => z.2.2.1.2) e9).symm
    have eM : M2b = M9 := (congrArg (fun z : Nat × (Int32 × (jS × jF)) => z.2.2.2) e9).symm
    subst ex
    subst eF
    subst eG
    subst eM
    have hV : va_P D vwCl (pV yy h0 an B2b B2 F2b G2b F2 G2 M2b) H := hV
    have hD : va_D Z (pV yy h0 an B2b B2 F2b G2b F2 G2 M2b) := hD
    refine lv_if_eq (tgt := 962) hx hb (dd_of dL_law_12 7 rfl) (by decide) (fun c2 => absurd c2 (hx8 h16)) (fun c2 => ?_)
    refine lv_iconst (v := 1) hx hb (dd_of dL_law_12 8 rfl) (by decide) ?_
    refine lv_goto (tgt := 963) hx hb (dd_of dL_law_12 9 rfl) (by decide) ?_
    refine lv_istore (lv' := [(7, .int 1), (13, .int q), (12, .int (nI bk)), (11, .int so), (10, .int v), (9, .int (nI k)), (8, .int (nI tt)), (6, .int (nI ny)), (5, .int (nI nd)), (4, .int (nI np)), (3, .int (nI ng)), (2, .int (nI nb)), (1, .ref h0), (0, .ref sa)]) hx hb (dd_of dL_law_12 11 rfl) hl (by decide) rfl (fun ls hl => ?_)
    refine lv_goto (tgt := 1214) hx hb (dd_of dL_law_12 12 rfl) (by decide) ?_
    exact kk B2b B2 ng np nd ny t F2b G2b F2 G2 M2b FM2b GM2b H locs ls _ _ (LI_up hI2b (by omega)) ⟨by omega, by omega, by omega, by omega⟩ hV hD hS (lv_sub hl [0, 5, 6, 7, 8, 9, 10, 11, 12, 13] rfl) (show cells + 9 + 9 ≤ cells + 90 by omega) (show slots + 64 + 64 ≤ slots + 600 by omega)
set_option maxHeartbeats 4000000 in
set_option maxRecDepth 100000 in
theorem br_raise {p : Program} {l : Launch} {e : Env} {s : State} {m : MethodId} {args : Array Value} {below : List Frame} {meth : Method} {c : Code} {Q : State → Prop} {c0 : Cond} {D : va_G} {yy : Nat → ClassId} {Z : Nat → Prop} (hl9 : l.stackTraces = false) (h0 an sa : Nat) (hx : p.tables.exec = Jvm.exec) (hb : c.code = cL_law) (hml : c.maxLocals = 19) (hown : s.vm.findClass RL = some m.cls) (hts : ∀ w ∈ c0 :: wsL_law, w.before args s = true) (hK : va_K D vwCl (jT yy) s) (hT : jTP Z s) (hN : jNc s) (hA : ∀ q, s.heap.size ≤ q → Z q) (B B2 : Nat → Nat) {N nb ng np nd ny t tt k : Nat} {F F2 : jF} {G G2 : jG} {M FM : jF} {GM : jG} (hI : LI N nb ng np nd ny t F G F2 G2 M FM GM) (hnb : 2 ≤ nb ∧ nb ≤ 4) (hN3 : N + 3 ≤ 500) (ht9 : t + 12 ≤ 9000) (hcn : ng ≤ 8 ∧ np ≤ 8 ∧ nd ≤ 8) {H : Heap} {locs : List Loc} {cells slots : Nat} {ls : Array Slot} (hV : va_P D vwCl (pV yy h0 an B B2 F G F2 G2 M) H) (hD : va_D Z (pV yy h0 an B B2 F G F2 G2 M)) (hS : va_S Z s.heap H locs) {v so q : Int32} {bk : Nat} (hbk : bk < nb) (hq : eo F q) (hl : lv_has ls 19 [(13, .int q), (12, .int (nI bk)), (11, .int so), (10, .int v), (7, .int 1), (9, .int (nI k)), (8, .int (nI tt)), (6, .int (nI ny)), (5, .int (nI nd)), (4, .int (nI np)), (3, .int (nI ng)), (2, .int (nI nb)), (1, .ref h0), (0, .ref sa)]) (hce : cells ≤ 300000) (hsl : slots ≤ 3000000)  (kk : ∀ (B1 B3 : Nat → Nat) (g1 p1 d1 y1 t1 : Nat) (F1 : jF) (G1 : jG) (F3 : jF) (G3 : jG) (M1 FM1 : jF) (GM1 : jG) (H : Heap) (locs : List Loc) (ls : Array Slot) (ce sl : Nat), LI (N + 2) nb g1 p1 d1 y1 t1 F1 G1 F3 G3 M1 FM1 GM1 → (g1 ≤ 8 ∧ p1 ≤ 8 ∧ d1 ≤ 8 ∧ t1 ≤ t + 12) → va_P D vwCl (pV yy h0 an B1 B3 F1 G1 F3 G3 M1) H → va_D Z (pV yy h0 an B1 B3 F1 G1 F3 G3 M1) → va_S Z s.heap H locs → lv_has ls 19 [(7, .int 1), (9, .int (nI k)), (8, .int (nI tt)), (6, .int (nI y1)), (5, .int (nI d1)), (4, .int (nI p1)), (3, .int (nI g1)), (2, .int (nI nb)), (1, .ref h0), (0, .ref sa)] → ce ≤ cells + 90 → sl ≤ slots + 600 → W p l e rmLaw s m args below meth c H locs ce sl Q (F0 m 1214 ls [])) : W p l e rmLaw s m args below meth c H locs cells slots Q (F0 m 975 ls []) := by
  obtain ⟨⟨b9, n9, hRR⟩, -, hc0, hc8, hc17, hc23, hc32, hc1⟩ := LI_rr hI
  refine lv_iload hx hb (dd_of dL_law_12 16 rfl) (lv_at hl 8 rfl) ?_
  refine lv_if_ne (tgt := 985) hx hb (dd_of dL_law_12 17 rfl) (by decide) (fun c1 => ?_) (fun c1 => ?_)
  · skip
    have hd0 : 0 < nd := by
      rcases Nat.eq_zero_or_pos nd with h | h
      · rw [h] at c1; exact absurd rfl c1
      · exact h
    refine lv_aload_n hx hb (dd_of dL_law_12 20 rfl) rfl (lv_at hl 12 rfl) ?_
    refine lv_iconst (v := 3) hx hb (dd_of dL_law_12 21 rfl) (by decide) ?_
    refine lv_iload hx hb (dd_of dL_law_12 22 rfl) (lv_at hl 3 rfl) ?_
    refine lv_iload hx hb (dd_of dL_law_12 23 rfl) (lv_at hl 8 rfl) ?_
    obtain ⟨jd, h_jd, e_jd⟩ := low_n v (n := nd) (by omega) (by omega)
    have e_jd : lowv v (nI nd) = nI jd := e_jd
    refine jc_si (As := [.int v, .int (nI nd)]) (rest := [.int 3, .ref h0]) ⟨hx, hb, hml, hown, hts⟩ (qL_low l v (nI nd) (nI_nz (by omega) (by omega))) (va_cwS 2 hts (jgSo gw2006 gw2007 gw173 gw2008) rfl rfl rfl (by decide +kernel) ⟨Nat.le_of_ble_eq_true rfl, Nat.le_of_ble_eq_true rfl⟩) rfl hl.1 rfl (Nat.le_of_ble_eq_true rfl) (dd_of dL_law_12 24 rfl) ⟨(show cells ≤ 600086 by omega), (show slots ≤ 7301442 by omega)⟩ (fun a1 ea1 => ?_)
    rw [e_jd] at ea1
    subst ea1
    refine lv_iconst (v := 1) hx hb (dd_of dL_law_12 25 rfl) (by decide) ?_
    refine lv_iload hx hb (dd_of dL_law_12 26 rfl) (lv_at hl 3 rfl) ?_
    refine lv_iconst (v := 4) hx hb (dd_of dL_law_12 27 rfl) (by decide) ?_
    refine lv_ishr hx hb (dd_of dL_law_12 28 rfl) ?_
    refine lv_bipush (v := 9) hx hb (dd_of dL_law_12 29 rfl) (by decide) ?_
    refine jc_si (As := [.int (v >>> (4 &&& 31)), .int 9]) (rest := [.int 1, .int (nI jd), .int 3, .ref h0]) ⟨hx, hb, hml, hown, hts⟩ (qL_low l (v >>> (4 &&& 31)) 9 (by decide)) (va_cwS 2 hts (jgSo gw2006 gw2007 gw173 gw2008) rfl rfl rfl (by decide +kernel) ⟨Nat.le_of_ble_eq_true rfl, Nat.le_of_ble_eq_true rfl⟩) rfl hl.1 rfl (Nat.le_of_ble_eq_true rfl) (dd_of dL_law_12 30 rfl) ⟨(show cells ≤ 600086 by omega), (show slots ≤ 7301442 by omega)⟩ (fun a2 ea2 => ?_)
    have ba2 := low_b (v >>> (4 &&& 31)) (n := 9) (by decide)
    rw [← ea2] at ba2
    refine lv_iadd hx hb (dd_of dL_law_12 31 rfl) ?_
    refine lv_iconst (v := 1) hx hb (dd_of dL_law_12 32 rfl) (by decide) ?_
    refine lv_iload hx hb (dd_of dL_law_12 33 rfl) (lv_at hl 3 rfl) ?_
    refine lv_bipush (v := 8) hx hb (dd_of dL_law_12 34 rfl) (by decide) ?_
    refine lv_ishr hx hb (dd_of dL_law_12 35 rfl) ?_
    refine lv_iconst (v := 3) hx hb (dd_of dL_law_12 36 rfl) (by decide) ?_
    refine jc_si (As := [.int (v >>> (8 &&& 31)), .int 3]) (rest := [.int 1, .int (1 + a2), .int (nI jd), .int 3, .ref h0]) ⟨hx, hb, hml, hown, hts⟩ (qL_low l (v >>> (8 &&& 31)) 3 (by decide)) (va_cwS 2 hts (jgSo gw2006 gw2007 gw173 gw2008) rfl rfl rfl (by decide +kernel) ⟨Nat.le_of_ble_eq_true rfl, Nat.le_of_ble_eq_true rfl⟩) rfl hl.1 rfl (Nat.le_of_ble_eq_true rfl) (dd_of dL_law_12 37 rfl) ⟨(show cells ≤ 600086 by omega), (show slots ≤ 7301442 by omega)⟩ (fun a3 ea3 => ?_)
    have ba3 := low_b (v >>> (8 &&& 31)) (n := 3) (by decide)
    rw [← ea3] at ba3
    refine lv_iadd hx hb (dd_of dL_law_12 38 rfl) ?_
    have r1 := rng1 ba2 (M := 99) (by decide)
    have r2 := rng1 ba3 (M := 9) (by decide)
    obtain ⟨ok, hfe⟩ := fe_raise hI (by omega) h_jd r1.1 r1.2 r2.1 r2.2
    have hcod : (gX11_raise F G M (nI jd) (1 + a2) (1 + a3)).1 = 0 ∨ (gX11_raise F G M (nI jd) (1 + a2) (1 + a3)).1 = 3 := hfe.elim (fun ⟨_, _, _, _, _, e, _⟩ => Or.inl (congrArg Prod.fst e)) (fun q => Or.inr q)
    refine kw_i (As := [.ref h0, .int 3, .int (nI jd), .int (1 + a2), .int (1 + a3)]) (rest := []) (D := D) (yy := yy) (P0 := pV yy h0 an B B2 F G F2 G2 M) (w1 := fun u : ((Nat → Nat) × jS) × jF => pV yy h0 an u.1.1 B2 u.1.2.1 u.1.2.2 F2 G2 u.2) ⟨hx, hb, hml, hown, hts⟩ (qL_acts_raise l hl9 D yy h0 an B B2 F G F2 G2 M H.size (nI jd) (1 + a2) (1 + a3) ok hcod) (vx_cwSW 5 hts (jgW gw2024 gw2025 gw173 gw2026) rfl rfl rfl (by decide +kernel) ⟨Nat.le_of_ble_eq_true rfl, Nat.le_of_ble_eq_true rfl⟩) hV hK hT hN hD hS hA rfl hl.1 rfl (Nat.le_of_ble_eq_true rfl) (dd_of dL_law_12 39 rfl) ⟨(show cells + 9 ≤ 600086 by omega), (show slots + 64 ≤ 7301442 by omega)⟩ (fun x4 u H locs hp hV hD hS => ?_)
    obtain ⟨⟨B1, F9, G9⟩, M9⟩ := u
    obtain ⟨hp, -⟩ := hp
    have hp : gX11_raise F G M (nI jd) (1 + a2) (1 + a3) = (0, (x4, ((F9, G9), M9))) ∨ ((gX11_raise F G M (nI jd) (1 + a2) (1 + a3)).1 = 3 ∧ x4 = -9 ∧ ((B1, (F9, G9)), M9) = ((B, (F, G)), M)) := hp
    have hV : va_P D vwCl (pV yy h0 an B1 B2 F9 G9 F2 G2 M9) H := hV
    have hD : va_D Z (pV yy h0 an B1 B2 F9 G9 F2 G2 M9) := hD
    rcases hfe with ⟨F1, G1, M1, FM1, GM1, eq, hI1⟩ | cod
    · skip
      have hp := hp.resolve_right (fun q => absurd (show (0 : Nat) = 3 from (congrArg Prod.fst eq).symm.trans q.1) (by decide))
      have e9 := hp.symm.trans eq
      have ex : (F1 62 0) = x4 := (congrArg (fun z : Nat × (Int32 × (jS × jF)) => z.2.1) e9).symm
      have eF : F1 = F9 := (congrArg (fun z : Nat × (Int32 × (jS × jF)) => z.2.2.1.1) e9).symm
      have eG : G1 = G9 := (congrArg (fun z : Nat × (Int32 × (jS × jF)) => z.2.2.1.2) e9).symm
      have eM : M1 = M9 := (congrArg (fun z : Nat × (Int32 × (jS × jF)) => z.2.2.2) e9).symm
      subst ex
      subst eF
      subst eG
      subst eM
      refine lv_istore (lv' := [(14, .int (F1 62 0)), (13, .int q), (12, .int (nI bk)), (11, .int so), (10, .int v), (7, .int 1), (9, .int (nI k)), (8, .int (nI tt)), (6, .int (nI ny)), (5, .int (nI nd)), (4, .int (nI np)), (3, .int (nI ng)), (2, .int (nI nb)), (1, .ref h0), (0, .ref sa)]) hx hb (dd_of dL_law_13 0 rfl) hl (by decide) rfl (fun ls hl => ?_)
      refine lv_iload hx hb (dd_of dL_law_13 1 rfl) (lv_at hl 0 rfl) ?_
      refine lv_bipush (v := (-9)) hx hb (dd_of dL_law_13 2 rfl) (by decide) ?_
      refine lv_icmp_eq (tgt := 1037) hx hb (dd_of dL_law_13 3 rfl) (by decide) (fun c2 => ?_) (fun c2 => ?_)
      · skip
        refine lv_iconst (v := 1) hx hb (dd_of dL_law_13 8 rfl) (by decide) ?_
        refine lv_goto (tgt := 1042) hx hb (dd_of dL_law_13 9 rfl) (by decide) ?_
        refine lv_istore (lv' := [(7, .int 1), (14, .int (F1 62 0)), (13, .int q), (12, .int (nI bk)), (11, .int so), (10, .int v), (9, .int (nI k)), (8, .int (nI tt)), (6, .int (nI ny)), (5, .int (nI nd)), (4, .int (nI np)), (3, .int (nI ng)), (2, .int (nI nb)), (1, .ref h0), (0, .ref sa)]) hx hb (dd_of dL_law_13 11 rfl) hl (by decide) rfl (fun ls hl => ?_)
        refine lv_goto (tgt := 1214) hx hb (dd_of dL_law_13 12 rfl) (by decide) ?_
        exact kk B1 B2 ng np nd ny t F1 G1 F2 G2 M1 FM1 GM1 H locs ls _ _ (LI_up hI1 (by omega)) ⟨by omega, by omega, by omega, by omega⟩ hV hD hS (lv_sub hl [0, 6, 7, 8, 9, 10, 11, 12, 13, 14] rfl) (show cells + 9 ≤ cells + 90 by omega) (show slots + 64 ≤ slots + 600 by omega)
      · skip
        refine lv_iload hx hb (dd_of dL_law_13 4 rfl) (lv_at hl 0 rfl) ?_
        refine lv_aload_n hx hb (dd_of dL_law_13 5 rfl) rfl (lv_at hl 13 rfl) ?_
        refine kr_i (As := []) (rest := [.int (F1 62 0)]) (D := D) (yy := yy) (P0 := pV yy h0 an B1 B2 F1 G1 F2 G2 M1) (gc := (gX11_money F1 G1 M1).1) ⟨hx, hb, hml, hown, hts⟩ (qX11_money l hl9 D yy h0 an B1 B2 F1 G1 F2 G2 M1 H.size  ) (congrArg Prod.fst (rfl : gX11_money F1 G1 M1 = (0, F1 62 0))) (cwV 0 hts (jgV gw2023 gw978 gw979 gw2 gw980) rfl rfl rfl (by decide +kernel) ⟨Nat.le_of_ble_eq_true rfl, Nat.le_of_ble_eq_true rfl⟩) hV hK hT hS hA (va_recv hK hV (ci := 11) (q0 := 0) rfl rfl) rfl hl.1 rfl (Nat.le_of_ble_eq_true rfl) (dd_of dL_law_13 6 rfl) ⟨(show cells + 9 + 9 ≤ 600086 by omega), (show slots + 64 + 64 ≤ 7301442 by omega)⟩ (fun x5 H locs hp hV hS => ?_)
        have ex9 : (F1 62 0) = x5 := (congrArg Prod.snd ((hp : gX11_money F1 G1 M1 = (0, x5)).symm.trans (rfl : gX11_money F1 G1 M1 = (0, F1 62 0)))).symm
        subst ex9
        refine lv_icmp_ne (tgt := 1041) hx hb (dd_of dL_law_13 7 rfl) (by decide) (fun c3 => absurd rfl c3) (fun c3 => ?_)
        refine lv_iconst (v := 1) hx hb (dd_of dL_law_13 8 rfl) (by decide) ?_
        refine lv_goto (tgt := 1042) hx hb (dd_of dL_law_13 9 rfl) (by decide) ?_
        refine lv_istore (lv' := [(7, .int 1), (14, .int (F1 62 0)), (13, .int q), (12, .int (nI bk)), (11, .int so), (10, .int v), (9, .int (nI k)), (8, .int (nI tt)), (6, .int (nI ny)), (5, .int (nI nd)), (4, .int (nI np)), (3, .int (nI ng)), (2, .int (nI nb)), (1, .ref h0), (0, .ref sa)]) hx hb (dd_of dL_law_13 11 rfl) hl (by decide) rfl (fun ls hl => ?_)
        refine lv_goto (tgt := 1214) hx hb (dd_of dL_law_13 12 rfl) (by decide) ?_
        exact kk B1 B2 ng np nd ny t F1 G1 F2 G2 M1 FM1 GM1 H locs ls _ _ (LI_up hI1 (by omega)) ⟨by omega, by omega, by omega, by omega⟩ hV hD hS (lv_sub hl [0, 6, 7, 8, 9, 10, 11, 12, 13, 14] rfl) (show cells + 9 + 9 ≤ cells + 90 by omega) (show slots + 64 + 64 ≤ slots + 600 by omega)
    · skip
      have hp := hp.resolve_left (fun q => absurd (show (0 : Nat) = 3 from (congrArg Prod.fst q).symm.trans cod) (by decide))
      have ex : -9 = x4 := hp.2.1.symm
      have hu := hp.2.2
      have eB : B = B1 := (congrArg (fun z : ((Nat → Nat) × jS) × jF => z.1.1) hu).symm
      have eF : F = F9 := (congrArg (fun z : ((Nat → Nat) × jS) × jF => z.1.2.1) hu).symm
      have eG : G = G9 := (congrArg (fun z : ((Nat → Nat) × jS) × jF => z.1.2.2) hu).symm
      have eM : M = M9 := (congrArg (fun z : ((Nat → Nat) × jS) × jF => z.2) hu).symm
      clear hp
      subst ex
      subst eB
      subst eF
      subst eG
      subst eM
      refine lv_istore (lv' := [(14, .int (-9)), (13, .int q), (12, .int (nI bk)), (11, .int so), (10, .int v), (7, .int 1), (9, .int (nI k)), (8, .int (nI tt)), (6, .int (nI ny)), (5, .int (nI nd)), (4, .int (nI np)), (3, .int (nI ng)), (2, .int (nI nb)), (1, .ref h0), (0, .ref sa)]) hx hb (dd_of dL_law_13 0 rfl) hl (by decide) rfl (fun ls hl => ?_)
      refine lv_iload hx hb (dd_of dL_law_13 1 rfl) (lv_at hl 0 rfl) ?_
      refine lv_bipush (v := (-9)) hx hb (dd_of dL_law_13 2 rfl) (by decide) ?_
      refine lv_icmp_eq (tgt := 1037) hx hb (dd_of dL_law_13 3 rfl) (by decide) (fun c2 => ?_) (fun c2 => absurd rfl c2)
      refine lv_iconst (v := 1) hx hb (dd_of dL_law_13 8 rfl) (by decide) ?_
      refine lv_goto (tgt := 1042) hx hb (dd_of dL_law_13 9 rfl) (by decide) ?_
      refine lv_istore (lv' := [(7, .int 1), (14, .int (-9)), (13, .int q), (12, .int (nI bk)), (11, .int so), (10, .int v), (9, .int (nI k)), (8, .int (nI tt)), (6, .int (nI ny)), (5, .int (nI nd)), (4, .int (nI np)), (3, .int (nI ng)), (2, .int (nI nb)), (1, .ref h0), (0, .ref sa)]) hx hb (dd_of dL_law_13 11 rfl) hl (by decide) rfl (fun ls hl => ?_)
      refine lv_goto (tgt := 1214) hx hb (dd_of dL_law_13 12 rfl) (by decide) ?_
      exact kk B B2 ng np nd ny t F G F2 G2 M FM GM H locs ls _ _ (LI_up hI (by omega)) ⟨by omega, by omega, by omega, by omega⟩ hV hD hS (lv_sub hl [0, 6, 7, 8, 9, 10, 11, 12, 13, 14] rfl) (show cells + 9 ≤ cells + 90 by omega) (show slots + 64 ≤ slots + 600 by omega)
  · skip
    refine lv_bipush (v := (-9)) hx hb (dd_of dL_law_12 18 rfl) (by decide) ?_
    refine lv_goto (tgt := 1019) hx hb (dd_of dL_law_12 19 rfl) (by decide) ?_
    refine lv_istore (lv' := [(14, .int (-9)), (13, .int q), (12, .int (nI bk)), (11, .int so), (10, .int v), (7, .int 1), (9, .int (nI k)), (8, .int (nI tt)), (6, .int (nI ny)), (5, .int (nI nd)), (4, .int (nI np)), (3, .int (nI ng)), (2, .int (nI nb)), (1, .ref h0), (0, .ref sa)]) hx hb (dd_of dL_law_13 0 rfl) hl (by decide) rfl (fun ls hl => ?_)
    refine lv_iload hx hb (dd_of dL_law_13 1 rfl) (lv_at hl 0 rfl) ?_
    refine lv_bipush (v := (-9)) hx hb (dd_of dL_law_13 2 rfl) (by decide) ?_
    refine lv_icmp_eq (tgt := 1037) hx hb (dd_of dL_law_13 3 rfl) (by decide) (fun c2 => ?_) (fun c2 => absurd rfl c2)
    refine lv_iconst (v := 1) hx hb (dd_of dL_law_13 8 rfl) (by decide) ?_
    refine lv_goto (tgt := 1042) hx hb (dd_of dL_law_13 9 rfl) (by decide) ?_
    refine lv_istore (lv' := [(7, .int 1), (14, .int (-9)), (13, .int q), (12, .int (nI bk)), (11, .int so), (10, .int v), (9, .int (nI k)), (8, .int (nI tt)), (6, .int (nI ny)), (5, .int (nI nd)), (4, .int (nI np)), (3, .int (nI ng)), (2, .int (nI nb)), (1, .ref h0), (0, .ref sa)]) hx hb (dd_of dL_law_13 11 rfl) hl (by decide) rfl (fun ls hl => ?_)
    refine lv_goto (tgt := 1214) hx hb (dd_of dL_law_13 12 rfl) (by decide) ?_
    exact kk B B2 ng np nd ny t F G F2 G2 M FM GM H locs ls _ _ (LI_up hI (by omega)) ⟨by omega, by omega, by omega, by omega⟩ hV hD hS (lv_sub hl [0, 6, 7, 8, 9, 10, 11, 12, 13, 14] rfl) (show cells ≤ cells + 90 by omega) (show slots ≤ slots + 600 by omega)
