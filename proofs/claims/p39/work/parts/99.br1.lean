-- the law's turns: what is built
set_option maxHeartbeats 4000000 in
set_option maxRecDepth 100000 in
theorem br_addGate {p : Program} {l : Launch} {e : Env} {s : State} {m : MethodId} {args : Array Value} {below : List Frame} {meth : Method} {c : Code} {Q : State → Prop} {c0 : Cond} {D : va_G} {yy : Nat → ClassId} {Z : Nat → Prop} (hl9 : l.stackTraces = false) (h0 an sa : Nat) (hx : p.tables.exec = Jvm.exec) (hb : c.code = cL_law) (hml : c.maxLocals = 19) (hown : s.vm.findClass RL = some m.cls) (hts : ∀ w ∈ c0 :: wsL_law, w.before args s = true) (hK : va_K D vwCl (jT yy) s) (hT : jTP Z s) (hN : jNc s) (hA : ∀ q, s.heap.size ≤ q → Z q) (B B2 : Nat → Nat) {N nb ng np nd ny t tt k : Nat} {F F2 : jF} {G G2 : jG} {M FM : jF} {GM : jG} (hI : LI N nb ng np nd ny t F G F2 G2 M FM GM) (hnb : 2 ≤ nb ∧ nb ≤ 4) (hN3 : N + 3 ≤ 500) (ht9 : t + 12 ≤ 9000) (hcn : ng ≤ 8 ∧ np ≤ 8 ∧ nd ≤ 8) {H : Heap} {locs : List Loc} {cells slots : Nat} {ls : Array Slot} (hV : va_P D vwCl (pV yy h0 an B B2 F G F2 G2 M) H) (hD : va_D Z (pV yy h0 an B B2 F G F2 G2 M)) (hS : va_S Z s.heap H locs) {v so q : Int32} {bk : Nat} (hbk : bk < nb) (hq : eo F q) (hl : lv_has ls 19 [(13, .int q), (12, .int (nI bk)), (11, .int so), (10, .int v), (7, .int 1), (9, .int (nI k)), (8, .int (nI tt)), (6, .int (nI ny)), (5, .int (nI nd)), (4, .int (nI np)), (3, .int (nI ng)), (2, .int (nI nb)), (1, .ref h0), (0, .ref sa)]) (hce : cells ≤ 300000) (hsl : slots ≤ 3000000) (hne : ¬ nI bk = q) (h8 : ng < 8) (kk : ∀ (B1 B3 : Nat → Nat) (g1 p1 d1 y1 t1 : Nat) (F1 : jF) (G1 : jG) (F3 : jF) (G3 : jG) (M1 FM1 : jF) (GM1 : jG) (H : Heap) (locs : List Loc) (ls : Array Slot) (ce sl : Nat), LI (N + 2) nb g1 p1 d1 y1 t1 F1 G1 F3 G3 M1 FM1 GM1 → (g1 ≤ 8 ∧ p1 ≤ 8 ∧ d1 ≤ 8 ∧ t1 ≤ t + 12) → va_P D vwCl (pV yy h0 an B1 B3 F1 G1 F3 G3 M1) H → va_D Z (pV yy h0 an B1 B3 F1 G1 F3 G3 M1) → va_S Z s.heap H locs → lv_has ls 19 [(7, .int 1), (9, .int (nI k)), (8, .int (nI tt)), (6, .int (nI y1)), (5, .int (nI d1)), (4, .int (nI p1)), (3, .int (nI g1)), (2, .int (nI nb)), (1, .ref h0), (0, .ref sa)] → ce ≤ cells + 90 → sl ≤ slots + 600 → W p l e rmLaw s m args below meth c H locs ce sl Q (F0 m 1214 ls [])) : W p l e rmLaw s m args below meth c H locs cells slots Q (F0 m 287 ls []) := by
  obtain ⟨⟨b9, n9, hRR⟩, -, hc0, hc8, hc17, hc23, hc32, hc1⟩ := LI_rr hI
  refine lv_aload_n hx hb (dd_of dL_law_3 32 rfl) rfl (lv_at hl 12 rfl) ?_
  refine lv_iload hx hb (dd_of dL_law_3 33 rfl) (lv_at hl 1 rfl) ?_
  refine lv_iload hx hb (dd_of dL_law_3 34 rfl) (lv_at hl 0 rfl) ?_
  refine lv_iconst (v := 1) hx hb (dd_of dL_law_3 35 rfl) (by decide) ?_
  refine lv_iload hx hb (dd_of dL_law_3 36 rfl) (lv_at hl 3 rfl) ?_
  refine lv_bipush (v := 8) hx hb (dd_of dL_law_3 37 rfl) (by decide) ?_
  refine lv_ishr hx hb (dd_of dL_law_3 38 rfl) ?_
  refine lv_sipush (v := 900) hx hb (dd_of dL_law_3 39 rfl) (by decide) ?_
  refine jc_si (As := [.int (v >>> (8 &&& 31)), .int 900]) (rest := [.int 1, .int q, .int (nI bk), .ref h0]) ⟨hx, hb, hml, hown, hts⟩ (qL_low l (v >>> (8 &&& 31)) 900 (by decide)) (va_cwS 2 hts (jgSo gw2006 gw2007 gw173 gw2008) rfl rfl rfl (by decide +kernel) ⟨Nat.le_of_ble_eq_true rfl, Nat.le_of_ble_eq_true rfl⟩) rfl hl.1 rfl (Nat.le_of_ble_eq_true rfl) (dd_of dL_law_4 0 rfl) ⟨(show cells ≤ 600086 by omega), (show slots ≤ 7301442 by omega)⟩ (fun a1 ea1 => ?_)
  have ba1 := low_b (v >>> (8 &&& 31)) (n := 900) (by decide)
  rw [← ea1] at ba1
  refine lv_iadd hx hb (dd_of dL_law_4 1 rfl) ?_
  refine lv_iload hx hb (dd_of dL_law_4 2 rfl) (lv_at hl 3 rfl) ?_
  refine lv_iconst (v := 3) hx hb (dd_of dL_law_4 3 rfl) (by decide) ?_
  refine jc_si (As := [.int v, .int 3]) (rest := [.int (1 + a1), .int q, .int (nI bk), .ref h0]) ⟨hx, hb, hml, hown, hts⟩ (qL_low l v 3 (by decide)) (va_cwS 2 hts (jgSo gw2006 gw2007 gw173 gw2008) rfl rfl rfl (by decide +kernel) ⟨Nat.le_of_ble_eq_true rfl, Nat.le_of_ble_eq_true rfl⟩) rfl hl.1 rfl (Nat.le_of_ble_eq_true rfl) (dd_of dL_law_4 4 rfl) ⟨(show cells ≤ 600086 by omega), (show slots ≤ 7301442 by omega)⟩ (fun a2 ea2 => ?_)
  have ba2 := low_b v (n := 3) (by decide)
  rw [← ea2] at ba2
  have r1 := rng1 ba1 (M := 9999) (by decide)
  have r2 := rng0 ba2 (M := 3) (by decide)
  obtain ⟨ok, F1, G1, M1, FM1, GM1, eq, hI1⟩ := fe_addGate hI (by omega) hbk hq hne h8 r1.1 r1.2 r2.1 r2.2
  refine ka_i (As := [.int (nI bk), .int q, .int (1 + a1), .int a2]) (rest := []) (D := D) (yy := yy) (P0 := pV yy h0 an B B2 F G F2 G2 M) (gc := (gX11_addGate F G M (nI bk) q (1 + a1) a2).1) (w1 := fun u : ((Nat → Nat) × jS) × jF => pV yy h0 an u.1.1 B2 u.1.2.1 u.1.2.2 F2 G2 u.2) ⟨hx, hb, hml, hown, hts⟩ (qX11_addGate l hl9 D yy h0 an B B2 F G F2 G2 M H.size (nI bk) q (1 + a1) a2 ok) (cwV 4 hts (jgV gw2017 gw653 gw654 gw2 gw655) rfl rfl rfl (by decide +kernel) ⟨Nat.le_of_ble_eq_true rfl, Nat.le_of_ble_eq_true rfl⟩) hV hK hT hD hS hA (va_recv hK hV (ci := 11) (q0 := 0) rfl rfl) rfl hl.1 rfl (Nat.le_of_ble_eq_true rfl) (dd_of dL_law_4 5 rfl) ⟨(show cells + 9 ≤ 600086 by omega), (show slots + 64 ≤ 7301442 by omega)⟩ (fun E ce q9 H locs hg0 _ _ _ _ _ _ => absurd (congrArg Prod.fst eq) hg0) (fun x3 u H locs hp hV hD hS => ?_)
  obtain ⟨⟨B1, F9, G9⟩, M9⟩ := u
  obtain ⟨hp, -⟩ := hp
  have e9 := (hp : gX11_addGate F G M (nI bk) q (1 + a1) a2 = (0, (x3, ((F9, G9), M9)))).symm.trans eq
  have ex : (nI ng) = x3 := (congrArg (fun z : Nat × (Int32 × (jS × jF)) => z.2.1) e9).symm
  have eF : F1 = F9 := (congrArg (fun z : Nat × (Int32 × (jS × jF)) => z.2.2.1.1) e9).symm
  have eG : G1 = G9 := (congrArg (fun z : Nat × (Int32 × (jS × jF)) => z.2.2.1.2) e9).symm
  have eM : M1 = M9 := (congrArg (fun z : Nat × (Int32 × (jS × jF)) => z.2.2.2) e9).symm
  subst ex
  subst eF
  subst eG
  subst eM
  have hV : va_P D vwCl (pV yy h0 an B1 B2 F1 G1 F2 G2 M1) H := hV
  have hD : va_D Z (pV yy h0 an B1 B2 F1 G1 F2 G2 M1) := hD
  refine lv_iload_n hx hb (dd_of dL_law_4 6 rfl) rfl (lv_at hl 10 rfl) ?_
  refine lv_icmp_ne (tgt := 322) hx hb (dd_of dL_law_4 7 rfl) (by decide) (fun c1 => absurd rfl c1) (fun c1 => ?_)
  refine lv_iconst (v := 1) hx hb (dd_of dL_law_4 8 rfl) (by decide) ?_
  refine lv_goto (tgt := 323) hx hb (dd_of dL_law_4 9 rfl) (by decide) ?_
  refine lv_istore (lv' := [(7, .int 1), (13, .int q), (12, .int (nI bk)), (11, .int so), (10, .int v), (9, .int (nI k)), (8, .int (nI tt)), (6, .int (nI ny)), (5, .int (nI nd)), (4, .int (nI np)), (3, .int (nI ng)), (2, .int (nI nb)), (1, .ref h0), (0, .ref sa)]) hx hb (dd_of dL_law_4 11 rfl) hl (by decide) rfl (fun ls hl => ?_)
  refine lv_iinc (v := nI (ng + 1)) (lv' := [(3, .int (nI (ng + 1))), (7, .int 1), (13, .int q), (12, .int (nI bk)), (11, .int so), (10, .int v), (9, .int (nI k)), (8, .int (nI tt)), (6, .int (nI ny)), (5, .int (nI nd)), (4, .int (nI np)), (2, .int (nI nb)), (1, .ref h0), (0, .ref sa)]) hx hb (dd_of dL_law_4 12 rfl) hl (k := 10) rfl (show nI ng + nI 1 = nI (ng + 1) from nI_add _ _) (by decide) rfl (fun ls hl => ?_)
  refine lv_goto (tgt := 1214) hx hb (dd_of dL_law_4 13 rfl) (by decide) ?_
  exact kk B1 B2 (ng + 1) np nd ny t F1 G1 F2 G2 M1 FM1 GM1 H locs ls _ _ (LI_up hI1 (by omega)) ⟨by omega, by omega, by omega, by omega⟩ hV hD hS (lv_sub hl [1, 6, 7, 8, 9, 10, 0, 11, 12, 13] rfl) (show cells + 9 ≤ cells + 90 by omega) (show slots + 64 ≤ slots + 600 by omega)
set_option maxHeartbeats 4000000 in
set_option maxRecDepth 100000 in
theorem br_addPump {p : Program} {l : Launch} {e : Env} {s : State} {m : MethodId} {args : Array Value} {below : List Frame} {meth : Method} {c : Code} {Q : State → Prop} {c0 : Cond} {D : va_G} {yy : Nat → ClassId} {Z : Nat → Prop} (hl9 : l.stackTraces = false) (h0 an sa : Nat) (hx : p.tables.exec = Jvm.exec) (hb : c.code = cL_law) (hml : c.maxLocals = 19) (hown : s.vm.findClass RL = some m.cls) (hts : ∀ w ∈ c0 :: wsL_law, w.before args s = true) (hK : va_K D vwCl (jT yy) s) (hT : jTP Z s) (hN : jNc s) (hA : ∀ q, s.heap.size ≤ q → Z q) (B B2 : Nat → Nat) {N nb ng np nd ny t tt k : Nat} {F F2 : jF} {G G2 : jG} {M FM : jF} {GM : jG} (hI : LI N nb ng np nd ny t F G F2 G2 M FM GM) (hnb : 2 ≤ nb ∧ nb ≤ 4) (hN3 : N + 3 ≤ 500) (ht9 : t + 12 ≤ 9000) (hcn : ng ≤ 8 ∧ np ≤ 8 ∧ nd ≤ 8) {H : Heap} {locs : List Loc} {cells slots : Nat} {ls : Array Slot} (hV : va_P D vwCl (pV yy h0 an B B2 F G F2 G2 M) H) (hD : va_D Z (pV yy h0 an B B2 F G F2 G2 M)) (hS : va_S Z s.heap H locs) {v so q : Int32} {bk : Nat} (hbk : bk < nb) (hq : eo F q) (hl : lv_has ls 19 [(13, .int q), (12, .int (nI bk)), (11, .int so), (10, .int v), (7, .int 1), (9, .int (nI k)), (8, .int (nI tt)), (6, .int (nI ny)), (5, .int (nI nd)), (4, .int (nI np)), (3, .int (nI ng)), (2, .int (nI nb)), (1, .ref h0), (0, .ref sa)]) (hce : cells ≤ 300000) (hsl : slots ≤ 3000000) (hne : ¬ nI bk = q) (h8 : np < 8) (kk : ∀ (B1 B3 : Nat → Nat) (g1 p1 d1 y1 t1 : Nat) (F1 : jF) (G1 : jG) (F3 : jF) (G3 : jG) (M1 FM1 : jF) (GM1 : jG) (H : Heap) (locs : List Loc) (ls : Array Slot) (ce sl : Nat), LI (N + 2) nb g1 p1 d1 y1 t1 F1 G1 F3 G3 M1 FM1 GM1 → (g1 ≤ 8 ∧ p1 ≤ 8 ∧ d1 ≤ 8 ∧ t1 ≤ t + 12) → va_P D vwCl (pV yy h0 an B1 B3 F1 G1 F3 G3 M1) H → va_D Z (pV yy h0 an B1 B3 F1 G1 F3 G3 M1) → va_S Z s.heap H locs → lv_has ls 19 [(7, .int 1), (9, .int (nI k)), (8, .int (nI tt)), (6, .int (nI y1)), (5, .int (nI d1)), (4, .int (nI p1)), (3, .int (nI g1)), (2, .int (nI nb)), (1, .ref h0), (0, .ref sa)] → ce ≤ cells + 90 → sl ≤ slots + 600 → W p l e rmLaw s m args below meth c H locs ce sl Q (F0 m 1214 ls [])) : W p l e rmLaw s m args below meth c H locs cells slots Q (F0 m 351 ls []) := by
  obtain ⟨⟨b9, n9, hRR⟩, -, hc0, hc8, hc17, hc23, hc32, hc1⟩ := LI_rr hI
  refine lv_aload_n hx hb (dd_of dL_law_4 23 rfl) rfl (lv_at hl 12 rfl) ?_
  refine lv_iload hx hb (dd_of dL_law_4 24 rfl) (lv_at hl 1 rfl) ?_
  refine lv_iload hx hb (dd_of dL_law_4 25 rfl) (lv_at hl 0 rfl) ?_
  refine lv_iconst (v := 1) hx hb (dd_of dL_law_4 26 rfl) (by decide) ?_
  refine lv_iload hx hb (dd_of dL_law_4 27 rfl) (lv_at hl 3 rfl) ?_
  refine lv_bipush (v := 8) hx hb (dd_of dL_law_4 28 rfl) (by decide) ?_
  refine lv_ishr hx hb (dd_of dL_law_4 29 rfl) ?_
  refine lv_sipush (v := 300) hx hb (dd_of dL_law_4 30 rfl) (by decide) ?_
  refine jc_si (As := [.int (v >>> (8 &&& 31)), .int 300]) (rest := [.int 1, .int q, .int (nI bk), .ref h0]) ⟨hx, hb, hml, hown, hts⟩ (qL_low l (v >>> (8 &&& 31)) 300 (by decide)) (va_cwS 2 hts (jgSo gw2006 gw2007 gw173 gw2008) rfl rfl rfl (by decide +kernel) ⟨Nat.le_of_ble_eq_true rfl, Nat.le_of_ble_eq_true rfl⟩) rfl hl.1 rfl (Nat.le_of_ble_eq_true rfl) (dd_of dL_law_4 31 rfl) ⟨(show cells ≤ 600086 by omega), (show slots ≤ 7301442 by omega)⟩ (fun a1 ea1 => ?_)
  have ba1 := low_b (v >>> (8 &&& 31)) (n := 300) (by decide)
  rw [← ea1] at ba1
  refine lv_iadd hx hb (dd_of dL_law_4 32 rfl) ?_
  refine lv_iload hx hb (dd_of dL_law_4 33 rfl) (lv_at hl 3 rfl) ?_
  refine lv_bipush (v := 9) hx hb (dd_of dL_law_4 34 rfl) (by decide) ?_
  refine lv_ishr hx hb (dd_of dL_law_4 35 rfl) ?_
  refine lv_bipush (v := 20) hx hb (dd_of dL_law_4 36 rfl) (by decide) ?_
  refine jc_si (As := [.int (v >>> (9 &&& 31)), .int 20]) (rest := [.int (1 + a1), .int q, .int (nI bk), .ref h0]) ⟨hx, hb, hml, hown, hts⟩ (qL_low l (v >>> (9 &&& 31)) 20 (by decide)) (va_cwS 2 hts (jgSo gw2006 gw2007 gw173 gw2008) rfl rfl rfl (by decide +kernel) ⟨Nat.le_of_ble_eq_true rfl, Nat.le_of_ble_eq_true rfl⟩) rfl hl.1 rfl (Nat.le_of_ble_eq_true rfl) (dd_of dL_law_4 37 rfl) ⟨(show cells ≤ 600086 by omega), (show slots ≤ 7301442 by omega)⟩ (fun a2 ea2 => ?_)
  have ba2 := low_b (v >>> (9 &&& 31)) (n := 20) (by decide)
  rw [← ea2] at ba2
  refine lv_iconst (v := 1) hx hb (dd_of dL_law_4 38 rfl) (by decide) ?_
  refine lv_iload hx hb (dd_of dL_law_4 39 rfl) (lv_at hl 3 rfl) ?_
  refine lv_bipush (v := 9) hx hb (dd_of dL_law_5 0 rfl) (by decide) ?_
  refine jc_si (As := [.int v, .int 9]) (rest := [.int 1, .int a2, .int (1 + a1), .int q, .int (nI bk), .ref h0]) ⟨hx, hb, hml, hown, hts⟩ (qL_low l v 9 (by decide)) (va_cwS 2 hts (jgSo gw2006 gw2007 gw173 gw2008) rfl rfl rfl (by decide +kernel) ⟨Nat.le_of_ble_eq_true rfl, Nat.le_of_ble_eq_true rfl⟩) rfl hl.1 rfl (Nat.le_of_ble_eq_true rfl) (dd_of dL_law_5 1 rfl) ⟨(show cells ≤ 600086 by omega), (show slots ≤ 7301442 by omega)⟩ (fun a3 ea3 => ?_)
  have ba3 := low_b v (n := 9) (by decide)
  rw [← ea3] at ba3
  refine lv_iadd hx hb (dd_of dL_law_5 2 rfl) ?_
  have r1 := rng1 ba1 (M := 9999) (by decide)
  have r2 := rng0 ba2 (M := 999) (by decide)
  have r3 := rng1 ba3 (M := 999) (by decide)
  obtain ⟨ok, F1, G1, M1, FM1, GM1, eq, hI1⟩ := fe_addPump hI (by omega) hbk hq hne h8 r1.1 r1.2 r2.1 r2.2 r3.1 r3.2
  refine ka_i (As := [.int (nI bk), .int q, .int (1 + a1), .int a2, .int (1 + a3)]) (rest := []) (D := D) (yy := yy) (P0 := pV yy h0 an B B2 F G F2 G2 M) (gc := (gX11_addPump F G M (nI bk) q (1 + a1) a2 (1 + a3)).1) (w1 := fun u : ((Nat → Nat) × jS) × jF => pV yy h0 an u.1.1 B2 u.1.2.1 u.1.2.2 F2 G2 u.2) ⟨hx, hb, hml, hown, hts⟩ (qX11_addPump l hl9 D yy h0 an B B2 F G F2 G2 M H.size (nI bk) q (1 + a1) a2 (1 + a3) ok) (cwV 5 hts (jgV gw2018 gw686 gw687 gw2 gw688) rfl rfl rfl (by decide +kernel) ⟨Nat.le_of_ble_eq_true rfl, Nat.le_of_ble_eq_true rfl⟩) hV hK hT hD hS hA (va_recv hK hV (ci := 11) (q0 := 0) rfl rfl) rfl hl.1 rfl (Nat.le_of_ble_eq_true rfl) (dd_of dL_law_5 3 rfl) ⟨(show cells + 9 ≤ 600086 by omega), (show slots + 64 ≤ 7301442 by omega)⟩ (fun E ce q9 H locs hg0 _ _ _ _ _ _ => absurd (congrArg Prod.fst eq) hg0) (fun x4 u H locs hp hV hD hS => ?_)
  obtain ⟨⟨B1, F9, G9⟩, M9⟩ := u
  obtain ⟨hp, -⟩ := hp
  have e9 := (hp : gX11_addPump F G M (nI bk) q (1 + a1) a2 (1 + a3) = (0, (x4, ((F9, G9), M9)))).symm.trans eq
  have ex : (nI np) = x4 := (congrArg (fun z : Nat × (Int32 × (jS × jF)) => z.2.1) e9).symm
  have eF : F1 = F9 := (congrArg (fun z : Nat × (Int32 × (jS × jF)) => z.2.2.1.1) e9).symm
  have eG : G1 = G9 := (congrArg (fun z : Nat × (Int32 × (jS × jF)) => z.2.2.1.2) e9).symm
  have eM : M1 = M9 := (congrArg (fun z : Nat × (Int32 × (jS × jF)) => z.2.2.2) e9).symm
  subst ex
  subst eF
  subst eG
  subst eM
  have hV : va_P D vwCl (pV yy h0 an B1 B2 F1 G1 F2 G2 M1) H := hV
  have hD : va_D Z (pV yy h0 an B1 B2 F1 G1 F2 G2 M1) := hD
  refine lv_iload hx hb (dd_of dL_law_5 4 rfl) (lv_at hl 9 rfl) ?_
  refine lv_icmp_ne (tgt := 400) hx hb (dd_of dL_law_5 5 rfl) (by decide) (fun c1 => absurd rfl c1) (fun c1 => ?_)
  refine lv_iconst (v := 1) hx hb (dd_of dL_law_5 6 rfl) (by decide) ?_
  refine lv_goto (tgt := 401) hx hb (dd_of dL_law_5 7 rfl) (by decide) ?_
  refine lv_istore (lv' := [(7, .int 1), (13, .int q), (12, .int (nI bk)), (11, .int so), (10, .int v), (9, .int (nI k)), (8, .int (nI tt)), (6, .int (nI ny)), (5, .int (nI nd)), (4, .int (nI np)), (3, .int (nI ng)), (2, .int (nI nb)), (1, .ref h0), (0, .ref sa)]) hx hb (dd_of dL_law_5 9 rfl) hl (by decide) rfl (fun ls hl => ?_)
  refine lv_iinc (v := nI (np + 1)) (lv' := [(4, .int (nI (np + 1))), (7, .int 1), (13, .int q), (12, .int (nI bk)), (11, .int so), (10, .int v), (9, .int (nI k)), (8, .int (nI tt)), (6, .int (nI ny)), (5, .int (nI nd)), (3, .int (nI ng)), (2, .int (nI nb)), (1, .ref h0), (0, .ref sa)]) hx hb (dd_of dL_law_5 10 rfl) hl (k := 9) rfl (show nI np + nI 1 = nI (np + 1) from nI_add _ _) (by decide) rfl (fun ls hl => ?_)
  refine lv_goto (tgt := 1214) hx hb (dd_of dL_law_5 11 rfl) (by decide) ?_
  exact kk B1 B2 ng (np + 1) nd ny t F1 G1 F2 G2 M1 FM1 GM1 H locs ls _ _ (LI_up hI1 (by omega)) ⟨by omega, by omega, by omega, by omega⟩ hV hD hS (lv_sub hl [1, 6, 7, 8, 9, 0, 10, 11, 12, 13] rfl) (show cells + 9 ≤ cells + 90 by omega) (show slots + 64 ≤ slots + 600 by omega)
set_option maxHeartbeats 4000000 in
set_option maxRecDepth 100000 in
theorem br_addDyke {p : Program} {l : Launch} {e : Env} {s : State} {m : MethodId} {args : Array Value} {below : List Frame} {meth : Method} {c : Code} {Q : State → Prop} {c0 : Cond} {D : va_G} {yy : Nat → ClassId} {Z : Nat → Prop} (hl9 : l.stackTraces = false) (h0 an sa : Nat) (hx : p.tables.exec = Jvm.exec) (hb : c.code = cL_law) (hml : c.maxLocals = 19) (hown : s.vm.findClass RL = some m.cls) (hts : ∀ w ∈ c0 :: wsL_law, w.before args s = true) (hK : va_K D vwCl (jT yy) s) (hT : jTP Z s) (hN : jNc s) (hA : ∀ q, s.heap.size ≤ q → Z q) (B B2 : Nat → Nat) {N nb ng np nd ny t tt k : Nat} {F F2 : jF} {G G2 : jG} {M FM : jF} {GM : jG} (hI : LI N nb ng np nd ny t F G F2 G2 M FM GM) (hnb : 2 ≤ nb ∧ nb ≤ 4) (hN3 : N + 3 ≤ 500) (ht9 : t + 12 ≤ 9000) (hcn : ng ≤ 8 ∧ np ≤ 8 ∧ nd ≤ 8) {H : Heap} {locs : List Loc} {cells slots : Nat} {ls : Array Slot} (hV : va_P D vwCl (pV yy h0 an B B2 F G F2 G2 M) H) (hD : va_D Z (pV yy h0 an B B2 F G F2 G2 M)) (hS : va_S Z s.heap H locs) {v so q : Int32} {bk : Nat} (hbk : bk < nb) (hq : eo F q) (hl : lv_has ls 19 [(13, .int q), (12, .int (nI bk)), (11, .int so), (10, .int v), (7, .int 1), (9, .int (nI k)), (8, .int (nI tt)), (6, .int (nI ny)), (5, .int (nI nd)), (4, .int (nI np)), (3, .int (nI ng)), (2, .int (nI nb)), (1, .ref h0), (0, .ref sa)]) (hce : cells ≤ 300000) (hsl : slots ≤ 3000000) (hne : ¬ nI bk = q) (h8 : nd < 8) (kk : ∀ (B1 B3 : Nat → Nat) (g1 p1 d1 y1 t1 : Nat) (F1 : jF) (G1 : jG) (F3 : jF) (G3 : jG) (M1 FM1 : jF) (GM1 : jG) (H : Heap) (locs : List Loc) (ls : Array Slot) (ce sl : Nat), LI (N + 2) nb g1 p1 d1 y1 t1 F1 G1 F3 G3 M1 FM1 GM1 → (g1 ≤ 8 ∧ p1 ≤ 8 ∧ d1 ≤ 8 ∧ t1 ≤ t + 12) → va_P D vwCl (pV yy h0 an B1 B3 F1 G1 F3 G3 M1) H → va_D Z (pV yy h0 an B1 B3 F1 G1 F3 G3 M1) → va_S Z s.heap H locs → lv_has ls 19 [(7, .int 1), (9, .int (nI k)), (8, .int (nI tt)), (6, .int (nI y1)), (5, .int (nI d1)), (4, .int (nI p1)), (3, .int (nI g1)), (2, .int (nI nb)), (1, .ref h0), (0, .ref sa)] → ce ≤ cells + 90 → sl ≤ slots + 600 → W p l e rmLaw s m args below meth c H locs ce sl Q (F0 m 1214 ls [])) : W p l e rmLaw s m args below meth c H locs cells slots Q (F0 m 430 ls []) := by
  obtain ⟨⟨b9, n9, hRR⟩, -, hc0, hc8, hc17, hc23, hc32, hc1⟩ := LI_rr hI
  refine lv_aload_n hx hb (dd_of dL_law_5 21 rfl) rfl (lv_at hl 12 rfl) ?_
  refine lv_iload hx hb (dd_of dL_law_5 22 rfl) (lv_at hl 1 rfl) ?_
  refine lv_iload hx hb (dd_of dL_law_5 23 rfl) (lv_at hl 0 rfl) ?_
  refine lv_iload hx hb (dd_of dL_law_5 24 rfl) (lv_at hl 3 rfl) ?_
  refine lv_bipush (v := 8) hx hb (dd_of dL_law_5 25 rfl) (by decide) ?_
  refine lv_ishr hx hb (dd_of dL_law_5 26 rfl) ?_
  refine lv_bipush (v := 12) hx hb (dd_of dL_law_5 27 rfl) (by decide) ?_
  refine jc_si (As := [.int (v >>> (8 &&& 31)), .int 12]) (rest := [.int q, .int (nI bk), .ref h0]) ⟨hx, hb, hml, hown, hts⟩ (qL_low l (v >>> (8 &&& 31)) 12 (by decide)) (va_cwS 2 hts (jgSo gw2006 gw2007 gw173 gw2008) rfl rfl rfl (by decide +kernel) ⟨Nat.le_of_ble_eq_true rfl, Nat.le_of_ble_eq_true rfl⟩) rfl hl.1 rfl (Nat.le_of_ble_eq_true rfl) (dd_of dL_law_5 28 rfl) ⟨(show cells ≤ 600086 by omega), (show slots ≤ 7301442 by omega)⟩ (fun a1 ea1 => ?_)
  have ba1 := low_b (v >>> (8 &&& 31)) (n := 12) (by decide)
  rw [← ea1] at ba1
  refine lv_iconst (v := 4) hx hb (dd_of dL_law_5 29 rfl) (by decide) ?_
  refine lv_isub hx hb (dd_of dL_law_5 30 rfl) ?_
  refine lv_iconst (v := 1) hx hb (dd_of dL_law_5 31 rfl) (by decide) ?_
  refine lv_iload hx hb (dd_of dL_law_5 32 rfl) (lv_at hl 3 rfl) ?_
  refine lv_bipush (v := 9) hx hb (dd_of dL_law_5 33 rfl) (by decide) ?_
  refine lv_ishr hx hb (dd_of dL_law_5 34 rfl) ?_
  refine lv_bipush (v := 60) hx hb (dd_of dL_law_5 35 rfl) (by decide) ?_
  refine jc_si (As := [.int (v >>> (9 &&& 31)), .int 60]) (rest := [.int 1, .int (a1 - 4), .int q, .int (nI bk), .ref h0]) ⟨hx, hb, hml, hown, hts⟩ (qL_low l (v >>> (9 &&& 31)) 60 (by decide)) (va_cwS 2 hts (jgSo gw2006 gw2007 gw173 gw2008) rfl rfl rfl (by decide +kernel) ⟨Nat.le_of_ble_eq_true rfl, Nat.le_of_ble_eq_true rfl⟩) rfl hl.1 rfl (Nat.le_of_ble_eq_true rfl) (dd_of dL_law_5 36 rfl) ⟨(show cells ≤ 600086 by omega), (show slots ≤ 7301442 by omega)⟩ (fun a2 ea2 => ?_)
  have ba2 := low_b (v >>> (9 &&& 31)) (n := 60) (by decide)
  rw [← ea2] at ba2
  refine lv_iadd hx hb (dd_of dL_law_5 37 rfl) ?_
  refine lv_iload hx hb (dd_of dL_law_5 38 rfl) (lv_at hl 3 rfl) ?_
  refine lv_bipush (v := 11) hx hb (dd_of dL_law_5 39 rfl) (by decide) ?_
  refine lv_ishr hx hb (dd_of dL_law_6 0 rfl) ?_
  refine lv_bipush (v := 99) hx hb (dd_of dL_law_6 1 rfl) (by decide) ?_
  refine jc_si (As := [.int (v >>> (11 &&& 31)), .int 99]) (rest := [.int (1 + a2), .int (a1 - 4), .int q, .int (nI bk), .ref h0]) ⟨hx, hb, hml, hown, hts⟩ (qL_low l (v >>> (11 &&& 31)) 99 (by decide)) (va_cwS 2 hts (jgSo gw2006 gw2007 gw173 gw2008) rfl rfl rfl (by decide +kernel) ⟨Nat.le_of_ble_eq_true rfl, Nat.le_of_ble_eq_true rfl⟩) rfl hl.1 rfl (Nat.le_of_ble_eq_true rfl) (dd_of dL_law_6 2 rfl) ⟨(show cells ≤ 600086 by omega), (show slots ≤ 7301442 by omega)⟩ (fun a3 ea3 => ?_)
  have ba3 := low_b (v >>> (11 &&& 31)) (n := 99) (by decide)
  rw [← ea3] at ba3
  have r1 := rngs (d := 4) (lo := -500) (hi := 999) ba1 (by decide) (by decide) (by decide)
  have r2 := rng1 ba2 (M := 999) (by decide)
  have r3 := rng0 ba3 (M := 99) (by decide)
  obtain ⟨ok, F1, G1, M1, FM1, GM1, eq, hI1⟩ := fe_addDyke hI (by omega) hbk hq hne h8 r1.1 r1.2 r2.1 r2.2 r3.1 r3.2
  refine ka_i (As := [.int (nI bk), .int q, .int (a1 - 4), .int (1 + a2), .int a3]) (rest := []) (D := D) (yy := yy) (P0 := pV yy h0 an B B2 F G F2 G2 M) (gc := (gX11_addDyke F G M (nI bk) q (a1 - 4) (1 + a2) a3).1) (w1 := fun u : ((Nat → Nat) × jS) × jF => pV yy h0 an u.1.1 B2 u.1.2.1 u.1.2.2 F2 G2 u.2) ⟨hx, hb, hml, hown, hts⟩ (qX11_addDyke l hl9 D yy h0 an B B2 F G F2 G2 M H.size (nI bk) q (a1 - 4) (1 + a2) a3 ok) (cwV 5 hts (jgV gw2019 gw699 gw700 gw2 gw701) rfl rfl rfl (by decide +kernel) ⟨Nat.le_of_ble_eq_true rfl, Nat.le_of_ble_eq_true rfl⟩) hV hK hT hD hS hA (va_recv hK hV (ci := 11) (q0 := 0) rfl rfl) rfl hl.1 rfl (Nat.le_of_ble_eq_true rfl) (dd_of dL_law_6 3 rfl) ⟨(show cells + 9 ≤ 600086 by omega), (show slots + 64 ≤ 7301442 by omega)⟩ (fun E ce q9 H locs hg0 _ _ _ _ _ _ => absurd (congrArg Prod.fst eq) hg0) (fun x4 u H locs hp hV hD hS => ?_)
  obtain ⟨⟨B1, F9, G9⟩, M9⟩ := u
  obtain ⟨hp, -⟩ := hp
  have e9 := (hp : gX11_addDyke F G M (nI bk) q (a1 - 4) (1 + a2) a3 = (0, (x4, ((F9, G9), M9)))).symm.trans eq
  have ex : (nI nd) = x4 := (congrArg (fun z : Nat × (Int32 × (jS × jF)) => z.2.1) e9).symm
  have eF : F1 = F9 := (congrArg (fun z : Nat × (Int32 × (jS × jF)) => z.2.2.1.1) e9).symm
  have eG : G1 = G9 := (congrArg (fun z : Nat × (Int32 × (jS × jF)) => z.2.2.1.2) e9).symm
  have eM : M1 = M9 := (congrArg (fun z : Nat × (Int32 × (jS × jF)) => z.2.2.2) e9).symm
  subst ex
  subst eF
  subst eG
  subst eM
  have hV : va_P D vwCl (pV yy h0 an B1 B2 F1 G1 F2 G2 M1) H := hV
  have hD : va_D Z (pV yy h0 an B1 B2 F1 G1 F2 G2 M1) := hD
  refine lv_iload hx hb (dd_of dL_law_6 4 rfl) (lv_at hl 8 rfl) ?_
  refine lv_icmp_ne (tgt := 481) hx hb (dd_of dL_law_6 5 rfl) (by decide) (fun c1 => absurd rfl c1) (fun c1 => ?_)
  refine lv_iconst (v := 1) hx hb (dd_of dL_law_6 6 rfl) (by decide) ?_
  refine lv_goto (tgt := 482) hx hb (dd_of dL_law_6 7 rfl) (by decide) ?_
  refine lv_istore (lv' := [(7, .int 1), (13, .int q), (12, .int (nI bk)), (11, .int so), (10, .int v), (9, .int (nI k)), (8, .int (nI tt)), (6, .int (nI ny)), (5, .int (nI nd)), (4, .int (nI np)), (3, .int (nI ng)), (2, .int (nI nb)), (1, .ref h0), (0, .ref sa)]) hx hb (dd_of dL_law_6 9 rfl) hl (by decide) rfl (fun ls hl => ?_)
  refine lv_iinc (v := nI (nd + 1)) (lv' := [(5, .int (nI (nd + 1))), (7, .int 1), (13, .int q), (12, .int (nI bk)), (11, .int so), (10, .int v), (9, .int (nI k)), (8, .int (nI tt)), (6, .int (nI ny)), (4, .int (nI np)), (3, .int (nI ng)), (2, .int (nI nb)), (1, .ref h0), (0, .ref sa)]) hx hb (dd_of dL_law_6 10 rfl) hl (k := 8) rfl (show nI nd + nI 1 = nI (nd + 1) from nI_add _ _) (by decide) rfl (fun ls hl => ?_)
  refine lv_goto (tgt := 1214) hx hb (dd_of dL_law_6 11 rfl) (by decide) ?_
  exact kk B1 B2 ng np (nd + 1) ny t F1 G1 F2 G2 M1 FM1 GM1 H locs ls _ _ (LI_up hI1 (by omega)) ⟨by omega, by omega, by omega, by omega⟩ hV hD hS (lv_sub hl [1, 6, 7, 8, 0, 9, 10, 11, 12, 13] rfl) (show cells + 9 ≤ cells + 90 by omega) (show slots + 64 ≤ slots + 600 by omega)
