-- the law's turns: years, what is outside, hours
set_option maxHeartbeats 4000000 in
set_option maxRecDepth 100000 in
theorem br_endYear {p : Program} {l : Launch} {e : Env} {s : State} {m : MethodId} {args : Array Value} {below : List Frame} {meth : Method} {c : Code} {Q : State → Prop} {c0 : Cond} {D : va_G} {yy : Nat → ClassId} {Z : Nat → Prop} (hl9 : l.stackTraces = false) (h0 an sa : Nat) (hx : p.tables.exec = Jvm.exec) (hb : c.code = cL_law) (hml : c.maxLocals = 19) (hown : s.vm.findClass RL = some m.cls) (hts : ∀ w ∈ c0 :: wsL_law, w.before args s = true) (hK : va_K D vwCl (jT yy) s) (hT : jTP Z s) (hN : jNc s) (hA : ∀ q, s.heap.size ≤ q → Z q) (B B2 : Nat → Nat) {N nb ng np nd ny t tt k : Nat} {F F2 : jF} {G G2 : jG} {M FM : jF} {GM : jG} (hI : LI N nb ng np nd ny t F G F2 G2 M FM GM) (hnb : 2 ≤ nb ∧ nb ≤ 4) (hN3 : N + 3 ≤ 500) (ht9 : t + 12 ≤ 9000) (hcn : ng ≤ 8 ∧ np ≤ 8 ∧ nd ≤ 8) {H : Heap} {locs : List Loc} {cells slots : Nat} {ls : Array Slot} (hV : va_P D vwCl (pV yy h0 an B B2 F G F2 G2 M) H) (hD : va_D Z (pV yy h0 an B B2 F G F2 G2 M)) (hS : va_S Z s.heap H locs) {v so q : Int32} {bk : Nat} (hbk : bk < nb) (hq : eo F q) (hl : lv_has ls 19 [(13, .int q), (12, .int (nI bk)), (11, .int so), (10, .int v), (7, .int 1), (9, .int (nI k)), (8, .int (nI tt)), (6, .int (nI ny)), (5, .int (nI nd)), (4, .int (nI np)), (3, .int (nI ng)), (2, .int (nI nb)), (1, .ref h0), (0, .ref sa)]) (hce : cells ≤ 300000) (hsl : slots ≤ 3000000)  (kk : ∀ (B1 B3 : Nat → Nat) (g1 p1 d1 y1 t1 : Nat) (F1 : jF) (G1 : jG) (F3 : jF) (G3 : jG) (M1 FM1 : jF) (GM1 : jG) (H : Heap) (locs : List Loc) (ls : Array Slot) (ce sl : Nat), LI (N + 2) nb g1 p1 d1 y1 t1 F1 G1 F3 G3 M1 FM1 GM1 → (g1 ≤ 8 ∧ p1 ≤ 8 ∧ d1 ≤ 8 ∧ t1 ≤ t + 12) → va_P D vwCl (pV yy h0 an B1 B3 F1 G1 F3 G3 M1) H → va_D Z (pV yy h0 an B1 B3 F1 G1 F3 G3 M1) → va_S Z s.heap H locs → lv_has ls 19 [(7, .int 1), (9, .int (nI k)), (8, .int (nI tt)), (6, .int (nI y1)), (5, .int (nI d1)), (4, .int (nI p1)), (3, .int (nI g1)), (2, .int (nI nb)), (1, .ref h0), (0, .ref sa)] → ce ≤ cells + 90 → sl ≤ slots + 600 → W p l e rmLaw s m args below meth c H locs ce sl Q (F0 m 1214 ls [])) : W p l e rmLaw s m args below meth c H locs cells slots Q (F0 m 1054 ls []) := by
  obtain ⟨⟨b9, n9, hRR⟩, -, hc0, hc8, hc17, hc23, hc32, hc1⟩ := LI_rr hI
  refine lv_aload_n hx hb (dd_of dL_law_13 16 rfl) rfl (lv_at hl 12 rfl) ?_
  refine lv_iconst (v := 4) hx hb (dd_of dL_law_13 17 rfl) (by decide) ?_
  refine lv_iconst (v := 0) hx hb (dd_of dL_law_13 18 rfl) (by decide) ?_
  refine lv_iconst (v := 0) hx hb (dd_of dL_law_13 19 rfl) (by decide) ?_
  refine lv_iconst (v := 0) hx hb (dd_of dL_law_13 20 rfl) (by decide) ?_
  obtain ⟨ok, hfe⟩ := fe_endYear hI (by omega)
  have hcod : (gX11_endYear F G M).1 = 0 ∨ (gX11_endYear F G M).1 = 3 := hfe.elim (fun ⟨_, _, _, _, _, _, e, _⟩ => Or.inl (congrArg Prod.fst e)) (fun q => Or.inr q.2)
  refine kw_i (As := [.ref h0, .int 4, .int 0, .int 0, .int 0]) (rest := []) (D := D) (yy := yy) (P0 := pV yy h0 an B B2 F G F2 G2 M) (w1 := fun u : ((Nat → Nat) × jS) × jF => pV yy h0 an u.1.1 B2 u.1.2.1 u.1.2.2 F2 G2 u.2) ⟨hx, hb, hml, hown, hts⟩ (qL_acts_endYear l hl9 D yy h0 an B B2 F G F2 G2 M H.size 0 0 0 ok hcod) (vx_cwSW 5 hts (jgW gw2024 gw2025 gw173 gw2026) rfl rfl rfl (by decide +kernel) ⟨Nat.le_of_ble_eq_true rfl, Nat.le_of_ble_eq_true rfl⟩) hV hK hT hN hD hS hA rfl hl.1 rfl (Nat.le_of_ble_eq_true rfl) (dd_of dL_law_13 21 rfl) ⟨(show cells + 9 ≤ 600086 by omega), (show slots + 64 ≤ 7301442 by omega)⟩ (fun x1 u H locs hp hV hD hS => ?_)
  obtain ⟨⟨B1, F9, G9⟩, M9⟩ := u
  obtain ⟨hp, -⟩ := hp
  have hp : gX11_endYear F G M = (0, (x1, ((F9, G9), M9))) ∨ ((gX11_endYear F G M).1 = 3 ∧ x1 = -9 ∧ ((B1, (F9, G9)), M9) = ((B, (F, G)), M)) := hp
  have hV : va_P D vwCl (pV yy h0 an B1 B2 F9 G9 F2 G2 M9) H := hV
  have hD : va_D Z (pV yy h0 an B1 B2 F9 G9 F2 G2 M9) := hD
  rcases hfe with ⟨hny, F1, G1, M1, FM1, GM1, eq, hI1⟩ | ⟨hny, cod⟩
  · skip
    have hp := hp.resolve_right (fun q => absurd (show (0 : Nat) = 3 from (congrArg Prod.fst eq).symm.trans q.1) (by decide))
    have e9 := hp.symm.trans eq
    have ex : (nI (ny + 1)) = x1 := (congrArg (fun z : Nat × (Int32 × (jS × jF)) => z.2.1) e9).symm
    have eF : F1 = F9 := (congrArg (fun z : Nat × (Int32 × (jS × jF)) => z.2.2.1.1) e9).symm
    have eG : G1 = G9 := (congrArg (fun z : Nat × (Int32 × (jS × jF)) => z.2.2.1.2) e9).symm
    have eM : M1 = M9 := (congrArg (fun z : Nat × (Int32 × (jS × jF)) => z.2.2.2) e9).symm
    subst ex
    subst eF
    subst eG
    subst eM
    refine lv_istore (lv' := [(14, .int (nI (ny + 1))), (13, .int q), (12, .int (nI bk)), (11, .int so), (10, .int v), (7, .int 1), (9, .int (nI k)), (8, .int (nI tt)), (6, .int (nI ny)), (5, .int (nI nd)), (4, .int (nI np)), (3, .int (nI ng)), (2, .int (nI nb)), (1, .ref h0), (0, .ref sa)]) hx hb (dd_of dL_law_13 22 rfl) hl (by decide) rfl (fun ls hl => ?_)
    refine lv_iload hx hb (dd_of dL_law_13 23 rfl) (lv_at hl 0 rfl) ?_
    refine lv_iload hx hb (dd_of dL_law_13 24 rfl) (lv_at hl 8 rfl) ?_
    refine lv_bipush (v := 20) hx hb (dd_of dL_law_13 25 rfl) (by decide) ?_
    refine lv_icmp_ne (tgt := 1078) hx hb (dd_of dL_law_13 26 rfl) (by decide) (fun c1 => ?_) (fun c1 => absurd c1 (fun q => by rw [i32eq, nI_toInt (by omega), show (20 : Int32).toInt = 20 from rfl] at q; omega))
    refine lv_iload hx hb (dd_of dL_law_13 29 rfl) (lv_at hl 8 rfl) ?_
    refine lv_iconst (v := 1) hx hb (dd_of dL_law_13 30 rfl) (by decide) ?_
    refine lv_iadd hx hb (dd_of dL_law_13 31 rfl) ?_
    refine lv_icmp_ne (tgt := 1089) hx hb (dd_of dL_law_13 32 rfl) (by decide) (fun c1 => absurd (nI_add ny 1).symm c1) (fun c1 => ?_)
    refine lv_iconst (v := 1) hx hb (dd_of dL_law_13 33 rfl) (by decide) ?_
    refine lv_goto (tgt := 1090) hx hb (dd_of dL_law_13 34 rfl) (by decide) ?_
    refine lv_istore (lv' := [(7, .int 1), (14, .int (nI (ny + 1))), (13, .int q), (12, .int (nI bk)), (11, .int so), (10, .int v), (9, .int (nI k)), (8, .int (nI tt)), (6, .int (nI ny)), (5, .int (nI nd)), (4, .int (nI np)), (3, .int (nI ng)), (2, .int (nI nb)), (1, .ref h0), (0, .ref sa)]) hx hb (dd_of dL_law_13 36 rfl) hl (by decide) rfl (fun ls hl => ?_)
    refine lv_iload hx hb (dd_of dL_law_13 37 rfl) (lv_at hl 8 rfl) ?_
    refine lv_iload hx hb (dd_of dL_law_13 38 rfl) (lv_at hl 1 rfl) ?_
    refine lv_bipush (v := (-9)) hx hb (dd_of dL_law_13 39 rfl) (by decide) ?_
    refine lv_icmp_ne (tgt := 1105) hx hb (dd_of dL_law_14 0 rfl) (by decide) (fun c2 => ?_) (fun c2 => absurd c2 (fun q => by rw [i32eq, nI_toInt (by omega), show (-9 : Int32).toInt = -9 from rfl] at q; omega))
    refine lv_iconst (v := 1) hx hb (dd_of dL_law_14 3 rfl) (by decide) ?_
    refine lv_iadd hx hb (dd_of dL_law_14 4 rfl) ?_
    rw [show (nI ny + 1 : Int32) = nI (ny + 1) from nI_add ny 1]
    refine lv_istore (lv' := [(6, .int (nI (ny + 1))), (7, .int 1), (14, .int (nI (ny + 1))), (13, .int q), (12, .int (nI bk)), (11, .int so), (10, .int v), (9, .int (nI k)), (8, .int (nI tt)), (5, .int (nI nd)), (4, .int (nI np)), (3, .int (nI ng)), (2, .int (nI nb)), (1, .ref h0), (0, .ref sa)]) hx hb (dd_of dL_law_14 5 rfl) hl (by decide) rfl (fun ls hl => ?_)
    refine lv_goto (tgt := 1214) hx hb (dd_of dL_law_14 6 rfl) (by decide) ?_
    exact kk B1 B2 ng np nd (ny + 1) t F1 G1 F2 G2 M1 FM1 GM1 H locs ls _ _ (LI_up hI1 (by omega)) ⟨by omega, by omega, by omega, by omega⟩ hV hD hS (lv_sub hl [1, 7, 8, 0, 9, 10, 11, 12, 13, 14] rfl) (show cells + 9 ≤ cells + 90 by omega) (show slots + 64 ≤ slots + 600 by omega)
  · skip
    have hp := hp.resolve_left (fun q => absurd (show (0 : Nat) = 3 from (congrArg Prod.fst q).symm.trans cod) (by decide))
    have ex : -9 = x1 := hp.2.1.symm
    have hu := hp.2.2
    have eB : B = B1 := (congrArg (fun z : ((Nat → Nat) × jS) × jF => z.1.1) hu).symm
    have eF : F = F9 := (congrArg (fun z : ((Nat → Nat) × jS) × jF => z.1.2.1) hu).symm
    have eG : G = G9 := (congrArg (fun z : ((Nat → Nat) × jS) × jF => z.1.2.2) hu).symm
    have eM : M = M9 := (congrArg (fun z : ((Nat → Nat) × jS) × jF => z.2) hu).symm
    clear hp
    subst ex
    subst eB
    subst eF
    subst eG
    subst eM
    refine lv_istore (lv' := [(14, .int (-9)), (13, .int q), (12, .int (nI bk)), (11, .int so), (10, .int v), (7, .int 1), (9, .int (nI k)), (8, .int (nI tt)), (6, .int (nI ny)), (5, .int (nI nd)), (4, .int (nI np)), (3, .int (nI ng)), (2, .int (nI nb)), (1, .ref h0), (0, .ref sa)]) hx hb (dd_of dL_law_13 22 rfl) hl (by decide) rfl (fun ls hl => ?_)
    refine lv_iload hx hb (dd_of dL_law_13 23 rfl) (lv_at hl 0 rfl) ?_
    refine lv_iload hx hb (dd_of dL_law_13 24 rfl) (lv_at hl 8 rfl) ?_
    refine lv_bipush (v := 20) hx hb (dd_of dL_law_13 25 rfl) (by decide) ?_
    have e20 : nI ny = 20 := by rw [hny]; rfl
    refine lv_icmp_ne (tgt := 1078) hx hb (dd_of dL_law_13 26 rfl) (by decide) (fun c1 => absurd e20 c1) (fun c1 => ?_)
    refine lv_bipush (v := (-9)) hx hb (dd_of dL_law_13 27 rfl) (by decide) ?_
    refine lv_goto (tgt := 1082) hx hb (dd_of dL_law_13 28 rfl) (by decide) ?_
    refine lv_icmp_ne (tgt := 1089) hx hb (dd_of dL_law_13 32 rfl) (by decide) (fun c1 => absurd rfl c1) (fun c1 => ?_)
    refine lv_iconst (v := 1) hx hb (dd_of dL_law_13 33 rfl) (by decide) ?_
    refine lv_goto (tgt := 1090) hx hb (dd_of dL_law_13 34 rfl) (by decide) ?_
    refine lv_istore (lv' := [(7, .int 1), (14, .int (-9)), (13, .int q), (12, .int (nI bk)), (11, .int so), (10, .int v), (9, .int (nI k)), (8, .int (nI tt)), (6, .int (nI ny)), (5, .int (nI nd)), (4, .int (nI np)), (3, .int (nI ng)), (2, .int (nI nb)), (1, .ref h0), (0, .ref sa)]) hx hb (dd_of dL_law_13 36 rfl) hl (by decide) rfl (fun ls hl => ?_)
    refine lv_iload hx hb (dd_of dL_law_13 37 rfl) (lv_at hl 8 rfl) ?_
    refine lv_iload hx hb (dd_of dL_law_13 38 rfl) (lv_at hl 1 rfl) ?_
    refine lv_bipush (v := (-9)) hx hb (dd_of dL_law_13 39 rfl) (by decide) ?_
    refine lv_icmp_ne (tgt := 1105) hx hb (dd_of dL_law_14 0 rfl) (by decide) (fun c1 => absurd rfl c1) (fun c1 => ?_)
    refine lv_iconst (v := 0) hx hb (dd_of dL_law_14 1 rfl) (by decide) ?_
    refine lv_goto (tgt := 1106) hx hb (dd_of dL_law_14 2 rfl) (by decide) ?_
    refine lv_iadd hx hb (dd_of dL_law_14 4 rfl) ?_
    rw [Int32.add_zero]
    refine lv_istore (lv' := [(6, .int (nI ny)), (7, .int 1), (14, .int (-9)), (13, .int q), (12, .int (nI bk)), (11, .int so), (10, .int v), (9, .int (nI k)), (8, .int (nI tt)), (5, .int (nI nd)), (4, .int (nI np)), (3, .int (nI ng)), (2, .int (nI nb)), (1, .ref h0), (0, .ref sa)]) hx hb (dd_of dL_law_14 5 rfl) hl (by decide) rfl (fun ls hl => ?_)
    refine lv_goto (tgt := 1214) hx hb (dd_of dL_law_14 6 rfl) (by decide) ?_
    exact kk B B2 ng np nd ny t F G F2 G2 M FM GM H locs ls _ _ (LI_up hI (by omega)) ⟨by omega, by omega, by omega, by omega⟩ hV hD hS (lv_sub hl [1, 7, 8, 0, 9, 10, 11, 12, 13, 14] rfl) (show cells + 9 ≤ cells + 90 by omega) (show slots + 64 ≤ slots + 600 by omega)
set_option maxHeartbeats 4000000 in
set_option maxRecDepth 100000 in
theorem br_setOutside {p : Program} {l : Launch} {e : Env} {s : State} {m : MethodId} {args : Array Value} {below : List Frame} {meth : Method} {c : Code} {Q : State → Prop} {c0 : Cond} {D : va_G} {yy : Nat → ClassId} {Z : Nat → Prop} (hl9 : l.stackTraces = false) (h0 an sa : Nat) (hx : p.tables.exec = Jvm.exec) (hb : c.code = cL_law) (hml : c.maxLocals = 19) (hown : s.vm.findClass RL = some m.cls) (hts : ∀ w ∈ c0 :: wsL_law, w.before args s = true) (hK : va_K D vwCl (jT yy) s) (hT : jTP Z s) (hN : jNc s) (hA : ∀ q, s.heap.size ≤ q → Z q) (B B2 : Nat → Nat) {N nb ng np nd ny t tt k : Nat} {F F2 : jF} {G G2 : jG} {M FM : jF} {GM : jG} (hI : LI N nb ng np nd ny t F G F2 G2 M FM GM) (hnb : 2 ≤ nb ∧ nb ≤ 4) (hN3 : N + 3 ≤ 500) (ht9 : t + 12 ≤ 9000) (hcn : ng ≤ 8 ∧ np ≤ 8 ∧ nd ≤ 8) {H : Heap} {locs : List Loc} {cells slots : Nat} {ls : Array Slot} (hV : va_P D vwCl (pV yy h0 an B B2 F G F2 G2 M) H) (hD : va_D Z (pV yy h0 an B B2 F G F2 G2 M)) (hS : va_S Z s.heap H locs) {v so q : Int32} {bk : Nat} (hbk : bk < nb) (hq : eo F q) (hl : lv_has ls 19 [(13, .int q), (12, .int (nI bk)), (11, .int so), (10, .int v), (7, .int 1), (9, .int (nI k)), (8, .int (nI tt)), (6, .int (nI ny)), (5, .int (nI nd)), (4, .int (nI np)), (3, .int (nI ng)), (2, .int (nI nb)), (1, .ref h0), (0, .ref sa)]) (hce : cells ≤ 300000) (hsl : slots ≤ 3000000)  (kk : ∀ (B1 B3 : Nat → Nat) (g1 p1 d1 y1 t1 : Nat) (F1 : jF) (G1 : jG) (F3 : jF) (G3 : jG) (M1 FM1 : jF) (GM1 : jG) (H : Heap) (locs : List Loc) (ls : Array Slot) (ce sl : Nat), LI (N + 2) nb g1 p1 d1 y1 t1 F1 G1 F3 G3 M1 FM1 GM1 → (g1 ≤ 8 ∧ p1 ≤ 8 ∧ d1 ≤ 8 ∧ t1 ≤ t + 12) → va_P D vwCl (pV yy h0 an B1 B3 F1 G1 F3 G3 M1) H → va_D Z (pV yy h0 an B1 B3 F1 G1 F3 G3 M1) → va_S Z s.heap H locs → lv_has ls 19 [(7, .int 1), (9, .int (nI k)), (8, .int (nI tt)), (6, .int (nI y1)), (5, .int (nI d1)), (4, .int (nI p1)), (3, .int (nI g1)), (2, .int (nI nb)), (1, .ref h0), (0, .ref sa)] → ce ≤ cells + 90 → sl ≤ slots + 600 → W p l e rmLaw s m args below meth c H locs ce sl Q (F0 m 1214 ls [])) : W p l e rmLaw s m args below meth c H locs cells slots Q (F0 m 1119 ls []) := by
  obtain ⟨⟨b9, n9, hRR⟩, -, hc0, hc8, hc17, hc23, hc32, hc1⟩ := LI_rr hI
  refine lv_aload_n hx hb (dd_of dL_law_14 10 rfl) rfl (lv_at hl 12 rfl) ?_
  refine lv_iload hx hb (dd_of dL_law_14 11 rfl) (lv_at hl 3 rfl) ?_
  refine lv_bipush (v := 9) hx hb (dd_of dL_law_14 12 rfl) (by decide) ?_
  refine jc_si (As := [.int v, .int 9]) (rest := [.ref h0]) ⟨hx, hb, hml, hown, hts⟩ (qL_low l v 9 (by decide)) (va_cwS 2 hts (jgSo gw2006 gw2007 gw173 gw2008) rfl rfl rfl (by decide +kernel) ⟨Nat.le_of_ble_eq_true rfl, Nat.le_of_ble_eq_true rfl⟩) rfl hl.1 rfl (Nat.le_of_ble_eq_true rfl) (dd_of dL_law_14 13 rfl) ⟨(show cells ≤ 600086 by omega), (show slots ≤ 7301442 by omega)⟩ (fun a1 ea1 => ?_)
  have ba1 := low_b v (n := 9) (by decide)
  rw [← ea1] at ba1
  refine lv_iconst (v := 4) hx hb (dd_of dL_law_14 14 rfl) (by decide) ?_
  refine lv_isub hx hb (dd_of dL_law_14 15 rfl) ?_
  refine lv_iload hx hb (dd_of dL_law_14 16 rfl) (lv_at hl 3 rfl) ?_
  refine lv_iconst (v := 4) hx hb (dd_of dL_law_14 17 rfl) (by decide) ?_
  refine lv_ishr hx hb (dd_of dL_law_14 18 rfl) ?_
  refine lv_bipush (v := 20) hx hb (dd_of dL_law_14 19 rfl) (by decide) ?_
  refine jc_si (As := [.int (v >>> (4 &&& 31)), .int 20]) (rest := [.int (a1 - 4), .ref h0]) ⟨hx, hb, hml, hown, hts⟩ (qL_low l (v >>> (4 &&& 31)) 20 (by decide)) (va_cwS 2 hts (jgSo gw2006 gw2007 gw173 gw2008) rfl rfl rfl (by decide +kernel) ⟨Nat.le_of_ble_eq_true rfl, Nat.le_of_ble_eq_true rfl⟩) rfl hl.1 rfl (Nat.le_of_ble_eq_true rfl) (dd_of dL_law_14 20 rfl) ⟨(show cells ≤ 600086 by omega), (show slots ≤ 7301442 by omega)⟩ (fun a2 ea2 => ?_)
  have ba2 := low_b (v >>> (4 &&& 31)) (n := 20) (by decide)
  rw [← ea2] at ba2
  refine lv_iload hx hb (dd_of dL_law_14 21 rfl) (lv_at hl 3 rfl) ?_
  refine lv_bipush (v := 7) hx hb (dd_of dL_law_14 22 rfl) (by decide) ?_
  refine lv_ishr hx hb (dd_of dL_law_14 23 rfl) ?_
  refine lv_sipush (v := 2000) hx hb (dd_of dL_law_14 24 rfl) (by decide) ?_
  refine jc_si (As := [.int (v >>> (7 &&& 31)), .int 2000]) (rest := [.int a2, .int (a1 - 4), .ref h0]) ⟨hx, hb, hml, hown, hts⟩ (qL_low l (v >>> (7 &&& 31)) 2000 (by decide)) (va_cwS 2 hts (jgSo gw2006 gw2007 gw173 gw2008) rfl rfl rfl (by decide +kernel) ⟨Nat.le_of_ble_eq_true rfl, Nat.le_of_ble_eq_true rfl⟩) rfl hl.1 rfl (Nat.le_of_ble_eq_true rfl) (dd_of dL_law_14 25 rfl) ⟨(show cells ≤ 600086 by omega), (show slots ≤ 7301442 by omega)⟩ (fun a3 ea3 => ?_)
  have ba3 := low_b (v >>> (7 &&& 31)) (n := 2000) (by decide)
  rw [← ea3] at ba3
  refine lv_sipush (v := 500) hx hb (dd_of dL_law_14 26 rfl) (by decide) ?_
  refine lv_isub hx hb (dd_of dL_law_14 27 rfl) ?_
  have r1 := rngs (d := 4) (lo := -99) (hi := 99) ba1 (by decide) (by decide) (by decide)
  have r2 := rng0 ba2 (M := 400) (by decide)
  have r3 := rngs (d := 500) (lo := -9999) (hi := 99999) ba3 (by decide) (by decide) (by decide)
  obtain ⟨ok, F1, G1, M1, FM1, GM1, eq, hI1⟩ := fe_setOutside hI (by omega) r1.1 r1.2 r2.1 r2.2 r3.1 r3.2
  refine ka_v (As := [.int (a1 - 4), .int a2, .int (a3 - 500)]) (rest := []) (D := D) (yy := yy) (P0 := pV yy h0 an B B2 F G F2 G2 M) (gc := (gX11_setOutside F G M (a1 - 4) a2 (a3 - 500)).1) (w1 := fun u : ((Nat → Nat) × jS) × jF => pV yy h0 an u.1.1 B2 u.1.2.1 u.1.2.2 F2 G2 u.2) ⟨hx, hb, hml, hown, hts⟩ (qX11_setOutside l hl9 D yy h0 an B B2 F G F2 G2 M H.size (a1 - 4) a2 (a3 - 500) ok) (cwV 3 hts (jgV gw2035 gw712 gw713 gw2 gw714) rfl rfl rfl (by decide +kernel) ⟨Nat.le_of_ble_eq_true rfl, Nat.le_of_ble_eq_true rfl⟩) hV hK hT hD hS hA (va_recv hK hV (ci := 11) (q0 := 0) rfl rfl) rfl hl.1 rfl (Nat.le_of_ble_eq_true rfl) (dd_of dL_law_14 28 rfl) ⟨(show cells + 9 ≤ 600086 by omega), (show slots + 64 ≤ 7301442 by omega)⟩ (fun E ce q9 H locs hg0 _ _ _ _ _ _ => absurd (congrArg Prod.fst eq) hg0) (fun u H locs hp hV hD hS => ?_)
  obtain ⟨⟨B1, F9, G9⟩, M9⟩ := u
  obtain ⟨hp, -⟩ := hp
  have e9 := (hp : gX11_setOutside F G M (a1 - 4) a2 (a3 - 500) = (0, ((F9, G9), M9))).symm.trans eq
  have eF : F1 = F9 := (congrArg (fun z : Nat × (jS × jF) => z.2.1.1) e9).symm
  have eG : G1 = G9 := (congrArg (fun z : Nat × (jS × jF) => z.2.1.2) e9).symm
  have eM : M1 = M9 := (congrArg (fun z : Nat × (jS × jF) => z.2.2) e9).symm
  subst eF
  subst eG
  subst eM
  have hV : va_P D vwCl (pV yy h0 an B1 B2 F1 G1 F2 G2 M1) H := hV
  have hD : va_D Z (pV yy h0 an B1 B2 F1 G1 F2 G2 M1) := hD
  refine lv_aload_n hx hb (dd_of dL_law_14 29 rfl) rfl (lv_at hl 12 rfl) ?_
  refine lv_iload_n hx hb (dd_of dL_law_14 30 rfl) rfl (lv_at hl 11 rfl) ?_
  refine lv_iload hx hb (dd_of dL_law_14 31 rfl) (lv_at hl 3 rfl) ?_
  refine lv_iconst (v := 3) hx hb (dd_of dL_law_14 32 rfl) (by decide) ?_
  refine lv_ishr hx hb (dd_of dL_law_14 33 rfl) ?_
  refine lv_sipush (v := 1000) hx hb (dd_of dL_law_14 34 rfl) (by decide) ?_
  refine jc_si (As := [.int (v >>> (3 &&& 31)), .int 1000]) (rest := [.int (nI nb), .ref h0]) ⟨hx, hb, hml, hown, hts⟩ (qL_low l (v >>> (3 &&& 31)) 1000 (by decide)) (va_cwS 2 hts (jgSo gw2006 gw2007 gw173 gw2008) rfl rfl rfl (by decide +kernel) ⟨Nat.le_of_ble_eq_true rfl, Nat.le_of_ble_eq_true rfl⟩) rfl hl.1 rfl (Nat.le_of_ble_eq_true rfl) (dd_of dL_law_14 35 rfl) ⟨(show cells + 9 ≤ 600086 by omega), (show slots + 64 ≤ 7301442 by omega)⟩ (fun a5 ea5 => ?_)
  have ba5 := low_b (v >>> (3 &&& 31)) (n := 1000) (by decide)
  rw [← ea5] at ba5
  have r4 := rng0 ba5 (M := 999999) (by decide)
  obtain ⟨⟨b8, n8, hRR1⟩, -, -, hc8b, -⟩ := LI_rr hI1
  obtain ⟨Sh, hsh1, hsh2⟩ := fx_share hRR1 M1 (p := a5) r4.1 r4.2
  rw [hc8b] at hsh1 hsh2
  refine ks_i (As := [.ref h0, .int (nI nb), .int a5]) (rest := []) (D := D) (yy := yy) (P0 := pV yy h0 an B1 B2 F1 G1 F2 G2 M1) (S0 := Unit) (w1 := fun _ => pV yy h0 an B1 B2 F1 G1 F2 G2 M1) ⟨hx, hb, hml, hown, hts⟩ (qL_shares l hl9 D yy h0 an B1 B2 F1 G1 F2 G2 M1 H.size nb a5 (by omega) Sh hsh1 hsh2) (va_cwS 3 hts (jgSo gw2036 gw2037 gw173 gw2038) rfl rfl rfl (by decide +kernel) ⟨Nat.le_of_ble_eq_true rfl, Nat.le_of_ble_eq_true rfl⟩) hV hK hT hN hD hS hA rfl hl.1 rfl (Nat.le_of_ble_eq_true rfl) (dd_of dL_law_14 36 rfl) ⟨(show cells + 9 + 72 ≤ 600086 by omega), (show slots + 64 + 512 ≤ 7301442 by omega)⟩ (fun x9 u H locs hp hV hD hS => ?_)
  have hp : 1 = x9 := (show x9 = 1 from hp).symm
  subst hp
  refine lv_istore (lv' := [(7, .int 1), (13, .int q), (12, .int (nI bk)), (11, .int so), (10, .int v), (9, .int (nI k)), (8, .int (nI tt)), (6, .int (nI ny)), (5, .int (nI nd)), (4, .int (nI np)), (3, .int (nI ng)), (2, .int (nI nb)), (1, .ref h0), (0, .ref sa)]) hx hb (dd_of dL_law_14 37 rfl) hl (by decide) rfl (fun ls hl => ?_)
  refine lv_goto (tgt := 1214) hx hb (dd_of dL_law_14 38 rfl) (by decide) ?_
  exact kk B1 B2 ng np nd ny t F1 G1 F2 G2 M1 FM1 GM1 H locs ls _ _ (LI_up hI1 (by omega)) ⟨by omega, by omega, by omega, by omega⟩ hV hD hS (lv_sub hl [0, 5, 6, 7, 8, 9, 10, 11, 12, 13] rfl) (show cells + 9 + 72 ≤ cells + 90 by omega) (show slots + 64 + 512 ≤ slots + 600 by omega)
set_option maxHeartbeats 4000000 in
set_option maxRecDepth 100000 in
theorem br_run {p : Program} {l : Launch} {e : Env} {s : State} {m : MethodId} {args : Array Value} {below : List Frame} {meth : Method} {c : Code} {Q : State → Prop} {c0 : Cond} {D : va_G} {yy : Nat → ClassId} {Z : Nat → Prop} (hl9 : l.stackTraces = false) (h0 an sa : Nat) (hx : p.tables.exec = Jvm.exec) (hb : c.code = cL_law) (hml : c.maxLocals = 19) (hown : s.vm.findClass RL = some m.cls) (hts : ∀ w ∈ c0 :: wsL_law, w.before args s = true) (hK : va_K D vwCl (jT yy) s) (hT : jTP Z s) (hN : jNc s) (hA : ∀ q, s.heap.size ≤ q → Z q) (B B2 : Nat → Nat) {N nb ng np nd ny t tt k : Nat} {F F2 : jF} {G G2 : jG} {M FM : jF} {GM : jG} (hI : LI N nb ng np nd ny t F G F2 G2 M FM GM) (hnb : 2 ≤ nb ∧ nb ≤ 4) (hN3 : N + 3 ≤ 500) (ht9 : t + 12 ≤ 9000) (hcn : ng ≤ 8 ∧ np ≤ 8 ∧ nd ≤ 8) {H : Heap} {locs : List Loc} {cells slots : Nat} {ls : Array Slot} (hV : va_P D vwCl (pV yy h0 an B B2 F G F2 G2 M) H) (hD : va_D Z (pV yy h0 an B B2 F G F2 G2 M)) (hS : va_S Z s.heap H locs) {v so q : Int32} {bk : Nat} (hbk : bk < nb) (hq : eo F q) (hl : lv_has ls 19 [(13, .int q), (12, .int (nI bk)), (11, .int so), (10, .int v), (7, .int 1), (9, .int (nI k)), (8, .int (nI tt)), (6, .int (nI ny)), (5, .int (nI nd)), (4, .int (nI np)), (3, .int (nI ng)), (2, .int (nI nb)), (1, .ref h0), (0, .ref sa)]) (hce : cells ≤ 300000) (hsl : slots ≤ 3000000)  (kk : ∀ (B1 B3 : Nat → Nat) (g1 p1 d1 y1 t1 : Nat) (F1 : jF) (G1 : jG) (F3 : jF) (G3 : jG) (M1 FM1 : jF) (GM1 : jG) (H : Heap) (locs : List Loc) (ls : Array Slot) (ce sl : Nat), LI (N + 2) nb g1 p1 d1 y1 t1 F1 G1 F3 G3 M1 FM1 GM1 → (g1 ≤ 8 ∧ p1 ≤ 8 ∧ d1 ≤ 8 ∧ t1 ≤ t + 12) → va_P D vwCl (pV yy h0 an B1 B3 F1 G1 F3 G3 M1) H → va_D Z (pV yy h0 an B1 B3 F1 G1 F3 G3 M1) → va_S Z s.heap H locs → lv_has ls 19 [(7, .int 1), (9, .int (nI k)), (8, .int (nI tt)), (6, .int (nI y1)), (5, .int (nI d1)), (4, .int (nI p1)), (3, .int (nI g1)), (2, .int (nI nb)), (1, .ref h0), (0, .ref sa)] → ce ≤ cells + 90 → sl ≤ slots + 600 → W p l e rmLaw s m args below meth c H locs ce sl Q (F0 m 1214 ls [])) : W p l e rmLaw s m args below meth c H locs cells slots Q (F0 m 1176 ls []) := by
  obtain ⟨⟨b9, n9, hRR⟩, -, hc0, hc8, hc17, hc23, hc32, hc1⟩ := LI_rr hI
  refine lv_aload_n hx hb (dd_of dL_law_14 39 rfl) rfl (lv_at hl 12 rfl) ?_
  refine kr_i (As := []) (rest := []) (D := D) (yy := yy) (P0 := pV yy h0 an B B2 F G F2 G2 M) (gc := (gX11_hour F G M).1) ⟨hx, hb, hml, hown, hts⟩ (qX11_hour l hl9 D yy h0 an B B2 F G F2 G2 M H.size  ) (congrArg Prod.fst (rfl : gX11_hour F G M = (0, F 0 0))) (cwV 0 hts (jgV gw2040 gw970 gw971 gw2 gw972) rfl rfl rfl (by decide +kernel) ⟨Nat.le_of_ble_eq_true rfl, Nat.le_of_ble_eq_true rfl⟩) hV hK hT hS hA (va_recv hK hV (ci := 11) (q0 := 0) rfl rfl) rfl hl.1 rfl (Nat.le_of_ble_eq_true rfl) (dd_of dL_law_15 0 rfl) ⟨(show cells + 9 ≤ 600086 by omega), (show slots + 64 ≤ 7301442 by omega)⟩ (fun x1 H locs hp hV hS => ?_)
  have ex9 : (F 0 0) = x1 := (congrArg Prod.snd ((hp : gX11_hour F G M = (0, x1)).symm.trans (rfl : gX11_hour F G M = (0, F 0 0)))).symm
  subst ex9
  refine lv_istore (lv' := [(14, .int (F 0 0)), (13, .int q), (12, .int (nI bk)), (11, .int so), (10, .int v), (7, .int 1), (9, .int (nI k)), (8, .int (nI tt)), (6, .int (nI ny)), (5, .int (nI nd)), (4, .int (nI np)), (3, .int (nI ng)), (2, .int (nI nb)), (1, .ref h0), (0, .ref sa)]) hx hb (dd_of dL_law_15 1 rfl) hl (by decide) rfl (fun ls hl => ?_)
  refine lv_iconst (v := 1) hx hb (dd_of dL_law_15 2 rfl) (by decide) ?_
  refine lv_iload hx hb (dd_of dL_law_15 3 rfl) (lv_at hl 4 rfl) ?_
  refine lv_bipush (v := 12) hx hb (dd_of dL_law_15 4 rfl) (by decide) ?_
  obtain ⟨j, h_j, e_j⟩ := low_n v (n := 12) (by omega) (by omega)
  have e_j : lowv v 12 = nI j := e_j
  refine jc_si (As := [.int v, .int 12]) (rest := [.int 1]) ⟨hx, hb, hml, hown, hts⟩ (qL_low l v 12 (by decide)) (va_cwS 2 hts (jgSo gw2006 gw2007 gw173 gw2008) rfl rfl rfl (by decide +kernel) ⟨Nat.le_of_ble_eq_true rfl, Nat.le_of_ble_eq_true rfl⟩) rfl hl.1 rfl (Nat.le_of_ble_eq_true rfl) (dd_of dL_law_15 5 rfl) ⟨(show cells + 9 ≤ 600086 by omega), (show slots + 64 ≤ 7301442 by omega)⟩ (fun a2 ea2 => ?_)
  rw [e_j] at ea2
  subst ea2
  refine lv_iadd hx hb (dd_of dL_law_15 6 rfl) ?_
  rw [show (1 + nI j : Int32) = nI (1 + j) from nI_add 1 j]
  refine lv_istore (lv' := [(15, .int (nI (1 + j))), (14, .int (F 0 0)), (13, .int q), (12, .int (nI bk)), (11, .int so), (10, .int v), (7, .int 1), (9, .int (nI k)), (8, .int (nI tt)), (6, .int (nI ny)), (5, .int (nI nd)), (4, .int (nI np)), (3, .int (nI ng)), (2, .int (nI nb)), (1, .ref h0), (0, .ref sa)]) hx hb (dd_of dL_law_15 7 rfl) hl (by decide) rfl (fun ls hl => ?_)
  refine lv_aload_n hx hb (dd_of dL_law_15 8 rfl) rfl (lv_at hl 14 rfl) ?_
  refine lv_iload hx hb (dd_of dL_law_15 9 rfl) (lv_at hl 0 rfl) ?_
  obtain ⟨ok, F1, G1, M1, FM1, GM1, eq, hI1⟩ := fe_run hI (by omega) (p := 1 + j) (by omega) (by omega) (by omega)
  refine ka_i (As := [.int (nI (1 + j))]) (rest := []) (D := D) (yy := yy) (P0 := pV yy h0 an B B2 F G F2 G2 M) (gc := (gX11_run F G M (nI (1 + j))).1) (w1 := fun u : ((Nat → Nat) × jS) × jF => pV yy h0 an u.1.1 B2 u.1.2.1 u.1.2.2 F2 G2 u.2) ⟨hx, hb, hml, hown, hts⟩ (qX11_run l hl9 D yy h0 an B B2 F G F2 G2 M H.size (nI (1 + j)) ok) (cwV 1 hts (jgV gw2041 gw881 gw882 gw2 gw883) rfl rfl rfl (by decide +kernel) ⟨Nat.le_of_ble_eq_true rfl, Nat.le_of_ble_eq_true rfl⟩) hV hK hT hD hS hA (va_recv hK hV (ci := 11) (q0 := 0) rfl rfl) rfl hl.1 rfl (Nat.le_of_ble_eq_true rfl) (dd_of dL_law_15 10 rfl) ⟨(show cells + 9 + 9 ≤ 600086 by omega), (show slots + 64 + 64 ≤ 7301442 by omega)⟩ (fun E ce q9 H locs hg0 _ _ _ _ _ _ => absurd (congrArg Prod.fst eq) hg0) (fun x3 u H locs hp hV hD hS => ?_)
  obtain ⟨⟨B1, F9, G9⟩, M9⟩ := u
  obtain ⟨hp, -⟩ := hp
  have e9 := (hp : gX11_run F G M (nI (1 + j)) = (0, (x3, ((F9, G9), M9)))).symm.trans eq
  have ex : (F 0 0 + nI (1 + j)) = x3 := (congrArg (fun z : Nat × (Int32 × (jS × jF)) => z.2.1) e9).symm
  have eF : F1 = F9 := (congrArg (fun z : Nat × (Int32 × (jS × jF)) => z.2.2.1.1) e9).symm
  have eG : G1 = G9 := (congrArg (fun z : Nat × (Int32 × (jS × jF)) => z.2.2.1.2) e9).symm
  have eM : M1 = M9 := (congrArg (fun z : Nat × (Int32 × (jS × jF)) => z.2.2.2) e9).symm
  subst ex
  subst eF
  subst eG
  subst eM
  have hV : va_P D vwCl (pV yy h0 an B1 B2 F1 G1 F2 G2 M1) H := hV
  have hD : va_D Z (pV yy h0 an B1 B2 F1 G1 F2 G2 M1) := hD
  refine lv_iload hx hb (dd_of dL_law_15 11 rfl) (lv_at hl 1 rfl) ?_
  refine lv_iload hx hb (dd_of dL_law_15 12 rfl) (lv_at hl 0 rfl) ?_
  refine lv_iadd hx hb (dd_of dL_law_15 13 rfl) ?_
  refine lv_icmp_ne (tgt := 1211) hx hb (dd_of dL_law_15 14 rfl) (by decide) (fun c1 => absurd rfl c1) (fun c1 => ?_)
  refine lv_iconst (v := 1) hx hb (dd_of dL_law_15 15 rfl) (by decide) ?_
  refine lv_goto (tgt := 1212) hx hb (dd_of dL_law_15 16 rfl) (by decide) ?_
  refine lv_istore (lv' := [(7, .int 1), (15, .int (nI (1 + j))), (14, .int (F 0 0)), (13, .int q), (12, .int (nI bk)), (11, .int so), (10, .int v), (9, .int (nI k)), (8, .int (nI tt)), (6, .int (nI ny)), (5, .int (nI nd)), (4, .int (nI np)), (3, .int (nI ng)), (2, .int (nI nb)), (1, .ref h0), (0, .ref sa)]) hx hb (dd_of dL_law_15 18 rfl) hl (by decide) rfl (fun ls hl => ?_)
  exact kk B1 B2 ng np nd ny (t + (1 + j)) F1 G1 F2 G2 M1 FM1 GM1 H locs ls _ _ (LI_up hI1 (by omega)) ⟨by omega, by omega, by omega, by omega⟩ hV hD hS (lv_sub hl [0, 7, 8, 9, 10, 11, 12, 13, 14, 15] rfl) (show cells + 9 + 9 ≤ cells + 90 by omega) (show slots + 64 + 64 ≤ slots + 600 by omega)
