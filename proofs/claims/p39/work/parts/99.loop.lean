-- which turn it is
set_option maxHeartbeats 4000000 in
set_option maxRecDepth 100000 in
theorem br_all {p : Program} {l : Launch} {e : Env} {s : State} {m : MethodId} {args : Array Value} {below : List Frame} {meth : Method} {c : Code} {Q : State → Prop} {c0 : Cond} {D : va_G} {yy : Nat → ClassId} {Z : Nat → Prop} (hl9 : l.stackTraces = false) (h0 an sa : Nat) (hx : p.tables.exec = Jvm.exec) (hb : c.code = cL_law) (hml : c.maxLocals = 19) (hown : s.vm.findClass RL = some m.cls) (hts : ∀ w ∈ c0 :: wsL_law, w.before args s = true) (hK : va_K D vwCl (jT yy) s) (hT : jTP Z s) (hN : jNc s) (hA : ∀ q, s.heap.size ≤ q → Z q) (B B2 : Nat → Nat) {N nb ng np nd ny t tt k : Nat} {F F2 : jF} {G G2 : jG} {M FM : jF} {GM : jG} (hI : LI N nb ng np nd ny t F G F2 G2 M FM GM) (hnb : 2 ≤ nb ∧ nb ≤ 4) (hN3 : N + 3 ≤ 500) (ht9 : t + 12 ≤ 9000) (hcn : ng ≤ 8 ∧ np ≤ 8 ∧ nd ≤ 8) {H : Heap} {locs : List Loc} {cells slots : Nat} {ls : Array Slot} (hV : va_P D vwCl (pV yy h0 an B B2 F G F2 G2 M) H) (hD : va_D Z (pV yy h0 an B B2 F G F2 G2 M)) (hS : va_S Z s.heap H locs) {v so q : Int32} {bk : Nat} (hbk : bk < nb) (hq : eo F q) (hl : lv_has ls 19 [(13, .int q), (12, .int (nI bk)), (11, .int so), (10, .int v), (7, .int 1), (9, .int (nI k)), (8, .int (nI tt)), (6, .int (nI ny)), (5, .int (nI nd)), (4, .int (nI np)), (3, .int (nI ng)), (2, .int (nI nb)), (1, .ref h0), (0, .ref sa)]) (hce : cells ≤ 300000) (hsl : slots ≤ 3000000) (kk : ∀ (B1 B3 : Nat → Nat) (g1 p1 d1 y1 t1 : Nat) (F1 : jF) (G1 : jG) (F3 : jF) (G3 : jG) (M1 FM1 : jF) (GM1 : jG) (H : Heap) (locs : List Loc) (ls : Array Slot) (ce sl : Nat), LI (N + 2) nb g1 p1 d1 y1 t1 F1 G1 F3 G3 M1 FM1 GM1 → (g1 ≤ 8 ∧ p1 ≤ 8 ∧ d1 ≤ 8 ∧ t1 ≤ t + 12) → va_P D vwCl (pV yy h0 an B1 B3 F1 G1 F3 G3 M1) H → va_D Z (pV yy h0 an B1 B3 F1 G1 F3 G3 M1) → va_S Z s.heap H locs → lv_has ls 19 [(7, .int 1), (9, .int (nI k)), (8, .int (nI tt)), (6, .int (nI y1)), (5, .int (nI d1)), (4, .int (nI p1)), (3, .int (nI g1)), (2, .int (nI nb)), (1, .ref h0), (0, .ref sa)] → ce ≤ cells + 90 → sl ≤ slots + 600 → W p l e rmLaw s m args below meth c H locs ce sl Q (F0 m 1214 ls [])) : W p l e rmLaw s m args below meth c H locs cells slots Q (F0 m 268 ls []) := by
  have c1112 : W p l e rmLaw s m args below meth c H locs cells slots Q (F0 m 1112 ls []) := by
    refine lv_iload hx hb (dd_of dL_law_14 7 rfl) (lv_at hl 2 rfl) ?_
    refine lv_bipush (v := 17) hx hb (dd_of dL_law_14 8 rfl) (by decide) ?_
    refine lv_icmp_ge (tgt := 1176) hx hb (dd_of dL_law_14 9 rfl) (by decide) (fun _ => br_run hl9 h0 an sa hx hb hml hown hts hK hT hN hA B B2 hI hnb hN3 ht9 hcn hV hD hS hbk hq hl hce hsl kk) (fun _ => br_setOutside hl9 h0 an sa hx hb hml hown hts hK hT hN hA B B2 hI hnb hN3 ht9 hcn hV hD hS hbk hq hl hce hsl kk)
  have c1047 : W p l e rmLaw s m args below meth c H locs cells slots Q (F0 m 1047 ls []) := by
    refine lv_iload hx hb (dd_of dL_law_13 13 rfl) (lv_at hl 2 rfl) ?_
    refine lv_bipush (v := 16) hx hb (dd_of dL_law_13 14 rfl) (by decide) ?_
    refine lv_icmp_ge (tgt := 1112) hx hb (dd_of dL_law_13 15 rfl) (by decide) (fun _ => c1112) (fun d1 => ?_)
    exact br_endYear hl9 h0 an sa hx hb hml hown hts hK hT hN hA B B2 hI hnb hN3 ht9 hcn hV hD hS hbk hq hl hce hsl kk
  have c968 : W p l e rmLaw s m args below meth c H locs cells slots Q (F0 m 968 ls []) := by
    refine lv_iload hx hb (dd_of dL_law_12 13 rfl) (lv_at hl 2 rfl) ?_
    refine lv_bipush (v := 15) hx hb (dd_of dL_law_12 14 rfl) (by decide) ?_
    refine lv_icmp_ge (tgt := 1047) hx hb (dd_of dL_law_12 15 rfl) (by decide) (fun _ => c1047) (fun d1 => ?_)
    exact br_raise hl9 h0 an sa hx hb hml hown hts hK hT hN hA B B2 hI hnb hN3 ht9 hcn hV hD hS hbk hq hl hce hsl kk
  have c919 : W p l e rmLaw s m args below meth c H locs cells slots Q (F0 m 919 ls []) := by
    refine lv_iload hx hb (dd_of dL_law_11 25 rfl) (lv_at hl 2 rfl) ?_
    refine lv_bipush (v := 14) hx hb (dd_of dL_law_11 26 rfl) (by decide) ?_
    refine lv_icmp_ge (tgt := 968) hx hb (dd_of dL_law_11 27 rfl) (by decide) (fun _ => c968) (fun d1 => ?_)
    exact br_road hl9 h0 an sa hx hb hml hown hts hK hT hN hA B B2 hI hnb hN3 ht9 hcn hV hD hS hbk hq hl hce hsl kk
  have c814 : W p l e rmLaw s m args below meth c H locs cells slots Q (F0 m 814 ls []) := by
    refine lv_iload hx hb (dd_of dL_law_10 13 rfl) (lv_at hl 2 rfl) ?_
    refine lv_bipush (v := 13) hx hb (dd_of dL_law_10 14 rfl) (by decide) ?_
    refine lv_icmp_ge (tgt := 919) hx hb (dd_of dL_law_10 15 rfl) (by decide) (fun _ => c919) (fun d1 => ?_)
    refine lv_iload hx hb (dd_of dL_law_10 16 rfl) (lv_at hl 8 rfl) ?_
    refine lv_if_le (tgt := 919) hx hb (dd_of dL_law_10 17 rfl) (by decide) (fun _ => c919) (fun d2 => ?_)
    exact br_send hl9 h0 an sa hx hb hml hown hts hK hT hN hA B B2 hI hnb hN3 ht9 hcn hV hD hS hbk hq hl hce hsl (gt_0 (by omega) d2) kk
  have c727 : W p l e rmLaw s m args below meth c H locs cells slots Q (F0 m 727 ls []) := by
    refine lv_iload hx hb (dd_of dL_law_9 8 rfl) (lv_at hl 2 rfl) ?_
    refine lv_bipush (v := 12) hx hb (dd_of dL_law_9 9 rfl) (by decide) ?_
    refine lv_icmp_ge (tgt := 814) hx hb (dd_of dL_law_9 10 rfl) (by decide) (fun _ => c814) (fun d1 => ?_)
    refine lv_iload hx hb (dd_of dL_law_9 11 rfl) (lv_at hl 9 rfl) ?_
    refine lv_if_le (tgt := 814) hx hb (dd_of dL_law_9 12 rfl) (by decide) (fun _ => c814) (fun d2 => ?_)
    exact br_mend hl9 h0 an sa hx hb hml hown hts hK hT hN hA B B2 hI hnb hN3 ht9 hcn hV hD hS hbk hq hl hce hsl (gt_0 (by omega) d2) kk
  have c596 : W p l e rmLaw s m args below meth c H locs cells slots Q (F0 m 596 ls []) := by
    refine lv_iload hx hb (dd_of dL_law_7 24 rfl) (lv_at hl 2 rfl) ?_
    refine lv_bipush (v := 11) hx hb (dd_of dL_law_7 25 rfl) (by decide) ?_
    refine lv_icmp_ge (tgt := 727) hx hb (dd_of dL_law_7 26 rfl) (by decide) (fun _ => c727) (fun d1 => ?_)
    refine lv_iload hx hb (dd_of dL_law_7 27 rfl) (lv_at hl 9 rfl) ?_
    refine lv_if_le (tgt := 727) hx hb (dd_of dL_law_7 28 rfl) (by decide) (fun _ => c727) (fun d2 => ?_)
    exact br_drive hl9 h0 an sa hx hb hml hown hts hK hT hN hA B B2 hI hnb hN3 ht9 hcn hV hD hS hbk hq hl hce hsl (gt_0 (by omega) d2) kk
  have c490 : W p l e rmLaw s m args below meth c H locs cells slots Q (F0 m 490 ls []) := by
    refine lv_iload hx hb (dd_of dL_law_6 12 rfl) (lv_at hl 2 rfl) ?_
    refine lv_bipush (v := 9) hx hb (dd_of dL_law_6 13 rfl) (by decide) ?_
    refine lv_icmp_ge (tgt := 596) hx hb (dd_of dL_law_6 14 rfl) (by decide) (fun _ => c596) (fun d1 => ?_)
    refine lv_iload_n hx hb (dd_of dL_law_6 15 rfl) rfl (lv_at hl 10 rfl) ?_
    refine lv_if_le (tgt := 596) hx hb (dd_of dL_law_6 16 rfl) (by decide) (fun _ => c596) (fun d2 => ?_)
    exact br_command hl9 h0 an sa hx hb hml hown hts hK hT hN hA B B2 hI hnb hN3 ht9 hcn hV hD hS hbk hq hl hce hsl (gt_0 (by omega) d2) kk
  have c409 : W p l e rmLaw s m args below meth c H locs cells slots Q (F0 m 409 ls []) := by
    refine lv_iload hx hb (dd_of dL_law_5 12 rfl) (lv_at hl 2 rfl) ?_
    refine lv_bipush (v := 7) hx hb (dd_of dL_law_5 13 rfl) (by decide) ?_
    refine lv_icmp_ge (tgt := 490) hx hb (dd_of dL_law_5 14 rfl) (by decide) (fun _ => c490) (fun d1 => ?_)
    refine lv_iload hx hb (dd_of dL_law_5 15 rfl) (lv_at hl 1 rfl) ?_
    refine lv_iload hx hb (dd_of dL_law_5 16 rfl) (lv_at hl 0 rfl) ?_
    refine lv_icmp_eq (tgt := 490) hx hb (dd_of dL_law_5 17 rfl) (by decide) (fun _ => c490) (fun d2 => ?_)
    refine lv_iload hx hb (dd_of dL_law_5 18 rfl) (lv_at hl 8 rfl) ?_
    refine lv_bipush (v := 8) hx hb (dd_of dL_law_5 19 rfl) (by decide) ?_
    refine lv_icmp_ge (tgt := 490) hx hb (dd_of dL_law_5 20 rfl) (by decide) (fun _ => c490) (fun d3 => ?_)
    exact br_addDyke hl9 h0 an sa hx hb hml hown hts hK hT hN hA B B2 hI hnb hN3 ht9 hcn hV hD hS hbk hq hl hce hsl d2 (le_8 (by omega) d3) kk
  have c331 : W p l e rmLaw s m args below meth c H locs cells slots Q (F0 m 331 ls []) := by
    refine lv_iload hx hb (dd_of dL_law_4 14 rfl) (lv_at hl 2 rfl) ?_
    refine lv_iconst (v := 4) hx hb (dd_of dL_law_4 15 rfl) (by decide) ?_
    refine lv_icmp_ge (tgt := 409) hx hb (dd_of dL_law_4 16 rfl) (by decide) (fun _ => c409) (fun d1 => ?_)
    refine lv_iload hx hb (dd_of dL_law_4 17 rfl) (lv_at hl 1 rfl) ?_
    refine lv_iload hx hb (dd_of dL_law_4 18 rfl) (lv_at hl 0 rfl) ?_
    refine lv_icmp_eq (tgt := 409) hx hb (dd_of dL_law_4 19 rfl) (by decide) (fun _ => c409) (fun d2 => ?_)
    refine lv_iload hx hb (dd_of dL_law_4 20 rfl) (lv_at hl 9 rfl) ?_
    refine lv_bipush (v := 8) hx hb (dd_of dL_law_4 21 rfl) (by decide) ?_
    refine lv_icmp_ge (tgt := 409) hx hb (dd_of dL_law_4 22 rfl) (by decide) (fun _ => c409) (fun d3 => ?_)
    exact br_addPump hl9 h0 an sa hx hb hml hown hts hK hT hN hA B B2 hI hnb hN3 ht9 hcn hV hD hS hbk hq hl hce hsl d2 (le_8 (by omega) d3) kk
  refine lv_iload hx hb (dd_of dL_law_3 23 rfl) (lv_at hl 2 rfl) ?_
  refine lv_iconst (v := 2) hx hb (dd_of dL_law_3 24 rfl) (by decide) ?_
  refine lv_icmp_ge (tgt := 331) hx hb (dd_of dL_law_3 25 rfl) (by decide) (fun _ => c331) (fun d1 => ?_)
  refine lv_iload hx hb (dd_of dL_law_3 26 rfl) (lv_at hl 1 rfl) ?_
  refine lv_iload hx hb (dd_of dL_law_3 27 rfl) (lv_at hl 0 rfl) ?_
  refine lv_icmp_eq (tgt := 331) hx hb (dd_of dL_law_3 28 rfl) (by decide) (fun _ => c331) (fun d2 => ?_)
  refine lv_iload_n hx hb (dd_of dL_law_3 29 rfl) rfl (lv_at hl 10 rfl) ?_
  refine lv_bipush (v := 8) hx hb (dd_of dL_law_3 30 rfl) (by decide) ?_
  refine lv_icmp_ge (tgt := 331) hx hb (dd_of dL_law_3 31 rfl) (by decide) (fun _ => c331) (fun d3 => ?_)
  exact br_addGate hl9 h0 an sa hx hb hml hown hts hK hT hN hA B B2 hI hnb hN3 ht9 hcn hV hD hS hbk hq hl hce hsl d2 (le_8 (by omega) d3) kk
set_option maxHeartbeats 4000000 in
set_option maxRecDepth 100000 in
theorem law_end {p : Program} {l : Launch} {e : Env} {s : State} {m : MethodId} {args : Array Value} {below : List Frame} {meth : Method} {c : Code} {Q : State → Prop} {c0 : Cond} {D : va_G} {yy : Nat → ClassId} {Z : Nat → Prop} (hl9 : l.stackTraces = false) (h0 an sa : Nat) (hx : p.tables.exec = Jvm.exec) (hb : c.code = cL_law) (hml : c.maxLocals = 19) (hown : s.vm.findClass RL = some m.cls) (hts : ∀ w ∈ c0 :: wsL_law, w.before args s = true) (hK : va_K D vwCl (jT yy) s) (hT : jTP Z s) (hN : jNc s) (hA : ∀ q, s.heap.size ≤ q → Z q) (B B2 : Nat → Nat) {N nb ng np nd ny t tt k : Nat} {F F2 : jF} {G G2 : jG} {M FM : jF} {GM : jG} (hI : LI N nb ng np nd ny t F G F2 G2 M FM GM) (hnb : 2 ≤ nb ∧ nb ≤ 4) (hN3 : N + 3 ≤ 500) (ht9 : t + 12 ≤ 9000) (hcn : ng ≤ 8 ∧ np ≤ 8 ∧ nd ≤ 8) {H : Heap} {locs : List Loc} {cells slots : Nat} {ls : Array Slot} (hV : va_P D vwCl (pV yy h0 an B B2 F G F2 G2 M) H) (hD : va_D Z (pV yy h0 an B B2 F G F2 G2 M)) (hS : va_S Z s.heap H locs) (hl : lv_has ls 19 [(7, .int 1), (9, .int (nI k)), (8, .int (nI tt)), (6, .int (nI ny)), (5, .int (nI nd)), (4, .int (nI np)), (3, .int (nI ng)), (2, .int (nI nb)), (1, .ref h0), (0, .ref sa)]) (hce : cells ≤ 300000) (hsl : slots ≤ 3000000) (kk : ∀ (B3 : Nat → Nat) (m9 : Nat) (FM1 : jF) (H : Heap) (locs : List Loc) (ls : Array Slot) (ce sl : Nat), LI (N + 1) nb ng np nd ny t F G F G (gAr m9 M) FM1 GM → va_P D vwCl (pV yy h0 an B B3 F G F G (gAr m9 M)) H → va_D Z (pV yy h0 an B B3 F G F G (gAr m9 M)) → va_S Z s.heap H locs → lv_has ls 19 [(7, .int 1), (9, .int (nI (k + 1))), (8, .int (nI tt)), (6, .int (nI ny)), (5, .int (nI nd)), (4, .int (nI np)), (3, .int (nI ng)), (2, .int (nI nb)), (1, .ref h0), (0, .ref sa)] → ce ≤ cells + 1180 → sl ≤ slots + 9280 → W p l e rmLaw s m args below meth c H locs ce sl Q (F0 m 213 ls [])) : W p l e rmLaw s m args below meth c H locs cells slots Q (F0 m 1214 ls []) := by
  obtain ⟨⟨b9, n9, hRR⟩, ⟨hb0, hhb⟩, hc0, hc8, hc17, hc23, hc32, hc1⟩ := LI_rr hI
  refine lv_iload hx hb (dd_of dL_law_15 19 rfl) (lv_at hl 0 rfl) ?_
  refine lv_if_eq (tgt := 1242) hx hb (dd_of dL_law_15 20 rfl) (by decide) (fun c1 => absurd c1 d10) (fun c1 => ?_)
  refine lv_aload_n hx hb (dd_of dL_law_15 21 rfl) rfl (lv_at hl 8 rfl) ?_
  refine lv_iload_n hx hb (dd_of dL_law_15 22 rfl) rfl (lv_at hl 7 rfl) ?_
  have hbal := fx_bal hRR hb0
  rw [hc8] at hbal
  refine ks_i (As := [.ref h0, .int (nI nb)]) (rest := []) (D := D) (yy := yy) (P0 := pV yy h0 an B B2 F G F2 G2 M) (S0 := Unit) (w1 := fun _ => pV yy h0 an B B2 F G F2 G2 M) ⟨hx, hb, hml, hown, hts⟩ (qL_water l hl9 D yy h0 an B B2 F G F2 G2 M H.size nb (by omega) (G 14) (G 56 0) (G 56 1) (G 56 2) (G 56 3) (fun j hj => fx_water hRR M (by rw [hc8]; exact hj)) (fun j hj => ⟨_, fx_harm hRR hhb M (by rw [hc8]; exact hj)⟩) (fun j hj => fx_level hRR M (by rw [hc8]; exact hj)) (fx_ledger hRR M (j := 0) (by omega)) (fx_ledger hRR M (j := 1) (by omega)) (fx_ledger hRR M (j := 2) (by omega)) (fx_ledger hRR M (j := 3) (by omega)) hbal) (va_cwS 2 hts (jgSo gw2042 gw998 gw173 gw2043) rfl rfl rfl (by decide +kernel) ⟨Nat.le_of_ble_eq_true rfl, Nat.le_of_ble_eq_true rfl⟩) hV hK hT hN hD hS hA rfl hl.1 rfl (Nat.le_of_ble_eq_true rfl) (dd_of dL_law_15 23 rfl) ⟨(show cells + 180 ≤ 600086 by omega), (show slots + 1280 ≤ 7301442 by omega)⟩ (fun x9 u H locs hp hV hD hS => ?_)
  have hp : 1 = x9 := (show x9 = 1 from hp).symm
  subst hp
  refine lv_if_eq (tgt := 1242) hx hb (dd_of dL_law_15 24 rfl) (by decide) (fun c1 => absurd c1 d10) (fun c1 => ?_)
  refine lv_aload_n hx hb (dd_of dL_law_15 25 rfl) rfl (lv_at hl 8 rfl) ?_
  refine lv_iload hx hb (dd_of dL_law_15 26 rfl) (lv_at hl 4 rfl) ?_
  refine lv_iload hx hb (dd_of dL_law_15 27 rfl) (lv_at hl 5 rfl) ?_
  obtain ⟨m9, hm9, a1, a2, a3, FM1, hI1⟩ := fe_anew hI (by omega)
  obtain ⟨⟨l1, l2⟩, e1, e2⟩ := fx_sea hRR M
  refine ks_i (As := [.ref h0, .int (nI nd), .int (nI np)]) (rest := []) (D := D) (yy := yy) (P0 := pV yy h0 an B B2 F G F2 G2 M) (S0 := Nat → Nat) (w1 := fun u => pV yy h0 an B u F G F G (gAr m9 M)) ⟨hx, hb, hml, hown, hts⟩ (qL_things l hl9 D yy h0 an B B2 F G F2 G2 M H.size nd np m9 (by omega) (by omega) hm9 (G 69 0) (fx_money hRR) ⟨l1, l2⟩ ⟨e1, e2⟩ a3 a1 a2 (fun j M1 hj => fx_dyke hRR M1 (by rw [hc32]; exact hj)) (fun j M1 hj => fx_pump hRR M1 (by rw [hc23]; exact hj)) (fun j M1 hj => by have h9 := fx_crew hRR M1 hj; rw [hc32] at h9; exact h9)) (va_cwS 3 hts (jgSo gw2049 gw2050 gw173 gw2051) rfl rfl rfl (by decide +kernel) ⟨Nat.le_of_ble_eq_true rfl, Nat.le_of_ble_eq_true rfl⟩) hV hK hT hN hD hS hA rfl hl.1 rfl (Nat.le_of_ble_eq_true rfl) (dd_of dL_law_15 28 rfl) ⟨(show cells + 180 + 1000 ≤ 600086 by omega), (show slots + 1280 + 8000 ≤ 7301442 by omega)⟩ (fun x9 B3 H locs hp hV hD hS => ?_)
  have hp : 1 = x9 := (show x9 = 1 from hp.1).symm
  subst hp
  refine lv_if_eq (tgt := 1242) hx hb (dd_of dL_law_15 29 rfl) (by decide) (fun c1 => absurd c1 d10) (fun c1 => ?_)
  refine lv_iconst (v := 1) hx hb (dd_of dL_law_15 30 rfl) (by decide) ?_
  refine lv_goto (tgt := 1243) hx hb (dd_of dL_law_15 31 rfl) (by decide) ?_
  refine lv_istore (lv' := [(7, .int 1), (9, .int (nI k)), (8, .int (nI tt)), (6, .int (nI ny)), (5, .int (nI nd)), (4, .int (nI np)), (3, .int (nI ng)), (2, .int (nI nb)), (1, .ref h0), (0, .ref sa)]) hx hb (dd_of dL_law_15 33 rfl) hl (by decide) rfl (fun ls hl => ?_)
  refine lv_iinc (v := nI (k + 1)) (lv' := [(9, .int (nI (k + 1))), (7, .int 1), (8, .int (nI tt)), (6, .int (nI ny)), (5, .int (nI nd)), (4, .int (nI np)), (3, .int (nI ng)), (2, .int (nI nb)), (1, .ref h0), (0, .ref sa)]) hx hb (dd_of dL_law_15 34 rfl) hl (k := 1) rfl (show nI k + nI 1 = nI (k + 1) from nI_add _ _) (by decide) rfl (fun ls hl => ?_)
  refine lv_goto (tgt := 213) hx hb (dd_of dL_law_15 35 rfl) (by decide) ?_
  exact kk B3 m9 FM1 H locs ls _ _ hI1 hV hD hS (lv_sub hl [1, 0, 2, 3, 4, 5, 6, 7, 8, 9] rfl) (show cells + 180 + 1000 ≤ cells + 1180 by omega) (show slots + 1280 + 8000 ≤ slots + 9280 by omega)
set_option maxHeartbeats 4000000 in
set_option maxRecDepth 100000 in
theorem law_loop {p : Program} {l : Launch} {e : Env} {s : State} {m : MethodId} {args : Array Value} {below : List Frame} {meth : Method} {c : Code} {Q : State → Prop} {c0 : Cond} {D : va_G} {yy : Nat → ClassId} {Z : Nat → Prop} (hl9 : l.stackTraces = false) (h0 an sa : Nat) (hx : p.tables.exec = Jvm.exec) (hb : c.code = cL_law) (hml : c.maxLocals = 19) (hown : s.vm.findClass RL = some m.cls) (hts : ∀ w ∈ c0 :: wsL_law, w.before args s = true) (hK : va_K D vwCl (jT yy) s) (hT : jTP Z s) (hN : jNc s) (hA : ∀ q, s.heap.size ≤ q → Z q) {L : Nat} (xs : Nat → Int32) (hL : L ≤ 260) (hX0 : va_X sa L xs s s.heap) (hbl : sa < s.heap.size) (hbA : ¬ Z sa) {nb tt : Nat} (hnb : 2 ≤ nb ∧ nb ≤ 4) (htt : tt ≤ 60) (kend : ∀ (H : Heap) (locs : List Loc) (cells slots : Nat) (ls : Array Slot), va_S Z s.heap H locs → cells ≤ 600086 → slots ≤ 7301442 → W p l e rmLaw s m args below meth c H locs cells slots Q (F0 m 1253 ls [.int 1])) : ∀ (d k N ng np nd ny t : Nat) (B B2 : Nat → Nat) (F : jF) (G : jG) (F2 : jF) (G2 : jG) (M FM : jF) (GM : jG) (H : Heap) (locs : List Loc) (cells slots : Nat) (ls : Array Slot), k + d = tt → LI N nb ng np nd ny t F G F2 G2 M FM GM → N ≤ 20 + 3 * k → t ≤ 12 * k → (ng ≤ 8 ∧ np ≤ 8 ∧ nd ≤ 8) → va_P D vwCl (pV yy h0 an B B2 F G F2 G2 M) H → va_D Z (pV yy h0 an B B2 F G F2 G2 M) → va_S Z s.heap H locs → lv_has ls 19 [(7, .int 1), (9, .int (nI k)), (8, .int (nI tt)), (6, .int (nI ny)), (5, .int (nI nd)), (4, .int (nI np)), (3, .int (nI ng)), (2, .int (nI nb)), (1, .ref h0), (0, .ref sa)] → cells ≤ 500 + 1300 * k → slots ≤ 6000 + 10000 * k → W p l e rmLaw s m args below meth c H locs cells slots Q (F0 m 213 ls []) := by
  intro d
  induction d with
  | zero =>
    intro k N ng np nd ny t B B2 F G F2 G2 M FM GM H locs cells slots ls hd hI hN3 ht9 hcn hV hD hS hl hce hsl
    have hk : k = tt := hd
    subst hk
    refine lv_iload hx hb (dd_of dL_law_2 34 rfl) (lv_at hl 1 rfl) ?_
    refine lv_iload hx hb (dd_of dL_law_2 35 rfl) (lv_at hl 2 rfl) ?_
    refine lv_icmp_ge (tgt := 1251) hx hb (dd_of dL_law_2 36 rfl) (by decide) (fun c1 => ?_) (fun c1 => absurd (i32le.mpr (Int.le_refl _)) c1)
    refine lv_iload hx hb (dd_of dL_law_15 36 rfl) (lv_at hl 0 rfl) ?_
    exact kend H locs _ _ ls hS (by omega) (by omega)
  | succ d ih =>
    intro k N ng np nd ny t B B2 F G F2 G2 M FM GM H locs cells slots ls hd hI hN3 ht9 hcn hV hD hS hl hce hsl
    obtain ⟨⟨b9, n9, hRR⟩, -, hc0, hc8, hc17, hc23, hc32, hc1⟩ := LI_rr hI
    refine lv_iload hx hb (dd_of dL_law_2 34 rfl) (lv_at hl 1 rfl) ?_
    refine lv_iload hx hb (dd_of dL_law_2 35 rfl) (lv_at hl 2 rfl) ?_
    refine lv_icmp_ge (tgt := 1251) hx hb (dd_of dL_law_2 36 rfl) (by decide) (fun c1 => absurd (i32le.mp c1) (by rw [nI_toInt (by omega), nI_toInt (by omega)]; omega)) (fun c1 => ?_)
    refine lv_iload hx hb (dd_of dL_law_2 37 rfl) (lv_at hl 0 rfl) ?_
    refine lv_if_eq (tgt := 1251) hx hb (dd_of dL_law_2 38 rfl) (by decide) (fun c1 => absurd c1 d10) (fun c1 => ?_)
    refine lv_aload_n hx hb (dd_of dL_law_2 39 rfl) rfl (lv_at hl 9 rfl) ?_
    refine lv_bipush (v := 7) hx hb (dd_of dL_law_3 0 rfl) (by decide) ?_
    refine lv_iload hx hb (dd_of dL_law_3 1 rfl) (lv_at hl 1 rfl) ?_
    refine lv_iadd hx hb (dd_of dL_law_3 2 rfl) ?_
    refine kc_i (As := [.ref sa, .int (7 + (nI k))]) (rest := []) ⟨hx, hb, hml, hown, hts⟩ (qL_cell l sa L xs hL (7 + (nI k)) (show ¬ nI 7 + nI k < 0 by rw [nI_add]; exact nI_pos (by omega))) (va_cwS 2 hts (jgSo gw2002 gw2003 gw173 gw2004) rfl rfl rfl (by decide +kernel) ⟨Nat.le_of_ble_eq_true rfl, Nat.le_of_ble_eq_true rfl⟩) hX0 hbl hbA hS rfl hl.1 rfl (Nat.le_of_ble_eq_true rfl) (dd_of dL_law_3 3 rfl) ⟨(show cells ≤ 600086 by omega), (show slots ≤ 7301442 by omega)⟩ (fun v1 _ => ?_)
    refine lv_istore (lv' := [(10, .int v1), (7, .int 1), (9, .int (nI k)), (8, .int (nI tt)), (6, .int (nI ny)), (5, .int (nI nd)), (4, .int (nI np)), (3, .int (nI ng)), (2, .int (nI nb)), (1, .ref h0), (0, .ref sa)]) hx hb (dd_of dL_law_3 4 rfl) hl (by decide) rfl (fun ls hl => ?_)
    refine lv_iload hx hb (dd_of dL_law_3 5 rfl) (lv_at hl 0 rfl) ?_
    refine lv_bipush (v := 20) hx hb (dd_of dL_law_3 6 rfl) (by decide) ?_
    refine lv_ishr hx hb (dd_of dL_law_3 7 rfl) ?_
    refine lv_bipush (v := 20) hx hb (dd_of dL_law_3 8 rfl) (by decide) ?_
    refine jc_si (As := [.int (v1 >>> (20 &&& 31)), .int 20]) (rest := []) ⟨hx, hb, hml, hown, hts⟩ (qL_low l (v1 >>> (20 &&& 31)) 20 (by decide)) (va_cwS 2 hts (jgSo gw2006 gw2007 gw173 gw2008) rfl rfl rfl (by decide +kernel) ⟨Nat.le_of_ble_eq_true rfl, Nat.le_of_ble_eq_true rfl⟩) rfl hl.1 rfl (Nat.le_of_ble_eq_true rfl) (dd_of dL_law_3 9 rfl) ⟨(show cells ≤ 600086 by omega), (show slots ≤ 7301442 by omega)⟩ (fun a2 ea2 => ?_)
    have ba2 := low_b (v1 >>> (20 &&& 31)) (n := 20) (by decide)
    rw [← ea2] at ba2
    refine lv_istore (lv' := [(11, .int a2), (10, .int v1), (7, .int 1), (9, .int (nI k)), (8, .int (nI tt)), (6, .int (nI ny)), (5, .int (nI nd)), (4, .int (nI np)), (3, .int (nI ng)), (2, .int (nI nb)), (1, .ref h0), (0, .ref sa)]) hx hb (dd_of dL_law_3 10 rfl) hl (by decide) rfl (fun ls hl => ?_)
    refine lv_iload hx hb (dd_of dL_law_3 11 rfl) (lv_at hl 1 rfl) ?_
    refine lv_iconst (v := 3) hx hb (dd_of dL_law_3 12 rfl) (by decide) ?_
    refine lv_ishr hx hb (dd_of dL_law_3 13 rfl) ?_
    refine lv_iload_n hx hb (dd_of dL_law_3 14 rfl) rfl (lv_at hl 9 rfl) ?_
    obtain ⟨bk, h_bk, e_bk⟩ := low_n (v1 >>> (3 &&& 31)) (n := nb) (by omega) (by omega)
    have e_bk : lowv (v1 >>> (3 &&& 31)) (nI nb) = nI bk := e_bk
    refine jc_si (As := [.int (v1 >>> (3 &&& 31)), .int (nI nb)]) (rest := []) ⟨hx, hb, hml, hown, hts⟩ (qL_low l (v1 >>> (3 &&& 31)) (nI nb) (nI_nz (by omega) (by omega))) (va_cwS 2 hts (jgSo gw2006 gw2007 gw173 gw2008) rfl rfl rfl (by decide +kernel) ⟨Nat.le_of_ble_eq_true rfl, Nat.le_of_ble_eq_true rfl⟩) rfl hl.1 rfl (Nat.le_of_ble_eq_true rfl) (dd_of dL_law_3 15 rfl) ⟨(show cells ≤ 600086 by omega), (show slots ≤ 7301442 by omega)⟩ (fun a3 ea3 => ?_)
    rw [e_bk] at ea3
    subst ea3
    refine lv_istore (lv' := [(12, .int (nI bk)), (11, .int a2), (10, .int v1), (7, .int 1), (9, .int (nI k)), (8, .int (nI tt)), (6, .int (nI ny)), (5, .int (nI nd)), (4, .int (nI np)), (3, .int (nI ng)), (2, .int (nI nb)), (1, .ref h0), (0, .ref sa)]) hx hb (dd_of dL_law_3 16 rfl) hl (by decide) rfl (fun ls hl => ?_)
    refine lv_iload hx hb (dd_of dL_law_3 17 rfl) (lv_at hl 2 rfl) ?_
    refine lv_iconst (v := 5) hx hb (dd_of dL_law_3 18 rfl) (by decide) ?_
    refine lv_ishr hx hb (dd_of dL_law_3 19 rfl) ?_
    refine lv_iload_n hx hb (dd_of dL_law_3 20 rfl) rfl (lv_at hl 10 rfl) ?_
    refine jc_si (As := [.int (v1 >>> (5 &&& 31)), .int (nI nb)]) (rest := []) ⟨hx, hb, hml, hown, hts⟩ (qL_end l (v1 >>> (5 &&& 31)) (nI nb) (by rw [show (nI nb + 2 : Int32) = nI (nb + 2) from nI_add nb 2]; exact nI_nz (by omega) (by omega))) (va_cwS 2 hts (jgSo gw2014 gw2015 gw173 gw2016) rfl rfl rfl (by decide +kernel) ⟨Nat.le_of_ble_eq_true rfl, Nat.le_of_ble_eq_true rfl⟩) rfl hl.1 rfl (Nat.le_of_ble_eq_true rfl) (dd_of dL_law_3 21 rfl) ⟨(show cells ≤ 600086 by omega), (show slots ≤ 7301442 by omega)⟩ (fun q eq9 => ?_)
    have hq : eo F q := by rw [eq9]; exact end_eo hc8 (by omega) _
    refine lv_istore (lv' := [(13, .int q), (12, .int (nI bk)), (11, .int a2), (10, .int v1), (7, .int 1), (9, .int (nI k)), (8, .int (nI tt)), (6, .int (nI ny)), (5, .int (nI nd)), (4, .int (nI np)), (3, .int (nI ng)), (2, .int (nI nb)), (1, .ref h0), (0, .ref sa)]) hx hb (dd_of dL_law_3 22 rfl) hl (by decide) rfl (fun ls hl => ?_)
    refine br_all hl9 h0 an sa hx hb hml hown hts hK hT hN hA B B2 (tt := tt) (k := k) hI hnb (by omega) (by omega) hcn hV hD hS (bk := bk) (by omega) hq (lv_sub hl [0, 1, 2, 3, 4, 5, 6, 7, 8, 9, 10, 11, 12, 13] rfl) (by omega) (by omega) (fun B1 B3 g1 p1 d1 y1 t1 F1 G1 F3 G3 M1 FM1 GM1 H locs ls ce sl hI hcn9 hV hD hS hl e1 e2 => ?_)
    refine law_end hl9 h0 an sa hx hb hml hown hts hK hT hN hA B1 B3 (tt := tt) (k := k) hI hnb (by omega) (by omega) ⟨hcn9.1, hcn9.2.1, hcn9.2.2.1⟩ hV hD hS hl (by omega) (by omega) (fun B4 m9 FM2 H locs ls ce2 sl2 hI hV hD hS hl e3 e4 => ?_)
    exact ih (k + 1) _ g1 p1 d1 y1 t1 B1 B4 F1 G1 F1 G1 _ FM2 GM1 H locs ce2 sl2 ls (by omega) hI (by omega) (by omega) ⟨hcn9.1, hcn9.2.1, hcn9.2.2.1⟩ hV hD hS hl (by omega) (by omega)
set_option maxHeartbeats 4000000 in
set_option maxRecDepth 100000 in
theorem law_basins {p : Program} {l : Launch} {e : Env} {s : State} {m : MethodId} {args : Array Value} {below : List Frame} {meth : Method} {c : Code} {Q : State → Prop} {c0 : Cond} {D : va_G} {yy : Nat → ClassId} {Z : Nat → Prop} (hl9 : l.stackTraces = false) (h0 an sa : Nat) (hx : p.tables.exec = Jvm.exec) (hb : c.code = cL_law) (hml : c.maxLocals = 19) (hown : s.vm.findClass RL = some m.cls) (hts : ∀ w ∈ c0 :: wsL_law, w.before args s = true) (hK : va_K D vwCl (jT yy) s) (hT : jTP Z s) (hN : jNc s) (hA : ∀ q, s.heap.size ≤ q → Z q) {L : Nat} (xs : Nat → Int32) (hL : L ≤ 260) (hX0 : va_X sa L xs s s.heap) (hbl : sa < s.heap.size) (hbA : ¬ Z sa) {nb : Nat} (hnb : 2 ≤ nb ∧ nb ≤ 4) (kend : ∀ (H : Heap) (locs : List Loc) (cells slots : Nat) (ls : Array Slot), va_S Z s.heap H locs → cells ≤ 600086 → slots ≤ 7301442 → W p l e rmLaw s m args below meth c H locs cells slots Q (F0 m 1253 ls [.int 1])) : ∀ (d k N : Nat) (B B2 : Nat → Nat) (F : jF) (G : jG) (F2 : jF) (G2 : jG) (M FM : jF) (GM : jG) (H : Heap) (locs : List Loc) (cells slots : Nat) (ls : Array Slot), k + d = nb → LI N k 0 0 0 0 0 F G F2 G2 M FM GM → GM 2 0 = 0 → N ≤ 3 * k → va_P D vwCl (pV yy h0 an B B2 F G F2 G2 M) H → va_D Z (pV yy h0 an B B2 F G F2 G2 M) → va_S Z s.heap H locs → lv_has ls 19 [(8, .int (nI k)), (7, .int 1), (6, .int 0), (5, .int 0), (4, .int 0), (3, .int 0), (2, .int (nI nb)), (1, .ref h0), (0, .ref sa)] → cells ≤ 100 + 27 * k → slots ≤ 4000 + 192 * k → W p l e rmLaw s m args below meth c H locs cells slots Q (F0 m 37 ls []) := by
  intro d
  induction d with
  | zero =>
    intro k N B B2 F G F2 G2 M FM GM H locs cells slots ls hd hI hmo hN3 hV hD hS hl hce hsl
    have hk : k = nb := hd
    subst hk
    refine lv_iload hx hb (dd_of dL_law_0 24 rfl) (lv_at hl 0 rfl) ?_
    refine lv_iload_n hx hb (dd_of dL_law_0 25 rfl) rfl (lv_at hl 6 rfl) ?_
    refine lv_icmp_ge (tgt := 168) hx hb (dd_of dL_law_0 26 rfl) (by decide) (fun c1 => ?_) (fun c1 => absurd (i32le.mpr (Int.le_refl _)) c1)
    refine lv_iload hx hb (dd_of dL_law_2 12 rfl) (lv_at hl 1 rfl) ?_
    refine lv_if_eq (tgt := 192) hx hb (dd_of dL_law_2 13 rfl) (by decide) (fun c1 => absurd c1 d10) (fun c1 => ?_)
    refine lv_aload_n hx hb (dd_of dL_law_2 14 rfl) rfl (lv_at hl 7 rfl) ?_
    refine lv_bipush (v := 50) hx hb (dd_of dL_law_2 15 rfl) (by decide) ?_
    refine lv_sipush (v := 500) hx hb (dd_of dL_law_2 16 rfl) (by decide) ?_
    obtain ⟨ok, F1, G1, M1, FM1, GM1, eq, hI1⟩ := fe_budget hI (by omega) (p1 := 50) (p2 := 500) (by decide) (by decide) (by decide) (by decide)
    have hmo9 : Int64.toInt32 (GM 2 0 + Int32.toInt64 500) = 500 := by rw [hmo]; rfl
    rw [hmo9] at eq
    refine ka_i (As := [.int 50, .int 500]) (rest := []) (D := D) (yy := yy) (P0 := pV yy h0 an B B2 F G F2 G2 M) (gc := (gX11_budget F G M 50 500).1) (w1 := fun u : ((Nat → Nat) × jS) × jF => pV yy h0 an u.1.1 B2 u.1.2.1 u.1.2.2 F2 G2 u.2) ⟨hx, hb, hml, hown, hts⟩ (qX11_budget l hl9 D yy h0 an B B2 F G F2 G2 M H.size 50 500 ok) (cwV 2 hts (jgV gw2013 gw852 gw853 gw2 gw854) rfl rfl rfl (by decide +kernel) ⟨Nat.le_of_ble_eq_true rfl, Nat.le_of_ble_eq_true rfl⟩) hV hK hT hD hS hA (va_recv hK hV (ci := 11) (q0 := 0) rfl rfl) rfl hl.1 rfl (Nat.le_of_ble_eq_true rfl) (dd_of dL_law_2 17 rfl) ⟨(show cells + 9 ≤ 600086 by omega), (show slots + 64 ≤ 7301442 by omega)⟩ (fun E ce q9 H locs hg0 _ _ _ _ _ _ => absurd (congrArg Prod.fst eq) hg0) (fun x1 u H locs hp hV hD hS => ?_)
    obtain ⟨⟨B1, F9, G9⟩, M9⟩ := u
    obtain ⟨hp, -⟩ := hp
    have e9 := (hp : gX11_budget F G M 50 500 = (0, (x1, ((F9, G9), M9)))).symm.trans eq
    have ex : 500 = x1 := (congrArg (fun z : Nat × (Int32 × (jS × jF)) => z.2.1) e9).symm
    have eF : F1 = F9 := (congrArg (fun z : Nat × (Int32 × (jS × jF)) => z.2.2.1.1) e9).symm
    have eG : G1 = G9 := (congrArg (fun z : Nat × (Int32 × (jS × jF)) => z.2.2.1.2) e9).symm
    have eM : M1 = M9 := (congrArg (fun z : Nat × (Int32 × (jS × jF)) => z.2.2.2) e9).symm
    subst ex
    subst eF
    subst eG
    subst eM
    have hV : va_P D vwCl (pV yy h0 an B1 B2 F1 G1 F2 G2 M1) H := hV
    have hD : va_D Z (pV yy h0 an B1 B2 F1 G1 F2 G2 M1) := hD
    refine lv_sipush (v := 500) hx hb (dd_of dL_law_2 18 rfl) (by decide) ?_
    refine lv_icmp_ne (tgt := 192) hx hb (dd_of dL_law_2 19 rfl) (by decide) (fun c1 => absurd rfl c1) (fun c1 => ?_)
    refine lv_iconst (v := 1) hx hb (dd_of dL_law_2 20 rfl) (by decide) ?_
    refine lv_goto (tgt := 193) hx hb (dd_of dL_law_2 21 rfl) (by decide) ?_
    refine lv_istore (lv' := [(7, .int 1), (8, .int (nI k)), (6, .int 0), (5, .int 0), (4, .int 0), (3, .int 0), (2, .int (nI k)), (1, .ref h0), (0, .ref sa)]) hx hb (dd_of dL_law_2 23 rfl) hl (by decide) rfl (fun ls hl => ?_)
    refine lv_bipush (v := 8) hx hb (dd_of dL_law_2 24 rfl) (by decide) ?_
    refine lv_aload_n hx hb (dd_of dL_law_2 25 rfl) rfl (lv_at hl 8 rfl) ?_
    refine lv_iconst (v := 0) hx hb (dd_of dL_law_2 26 rfl) (by decide) ?_
    refine kc_i (As := [.ref sa, .int 0]) (rest := [.int 8]) ⟨hx, hb, hml, hown, hts⟩ (qL_cell l sa L xs hL 0 (by decide)) (va_cwS 2 hts (jgSo gw2002 gw2003 gw173 gw2004) rfl rfl rfl (by decide +kernel) ⟨Nat.le_of_ble_eq_true rfl, Nat.le_of_ble_eq_true rfl⟩) hX0 hbl hbA hS rfl hl.1 rfl (Nat.le_of_ble_eq_true rfl) (dd_of dL_law_2 27 rfl) ⟨(show cells + 9 ≤ 600086 by omega), (show slots + 64 ≤ 7301442 by omega)⟩ (fun v2 _ => ?_)
    refine lv_bipush (v := 46) hx hb (dd_of dL_law_2 28 rfl) (by decide) ?_
    obtain ⟨jt, h_jt, e_jt⟩ := low_n v2 (n := 46) (by omega) (by omega)
    have e_jt : lowv v2 46 = nI jt := e_jt
    refine jc_si (As := [.int v2, .int 46]) (rest := [.int 8]) ⟨hx, hb, hml, hown, hts⟩ (qL_low l v2 46 (by decide)) (va_cwS 2 hts (jgSo gw2006 gw2007 gw173 gw2008) rfl rfl rfl (by decide +kernel) ⟨Nat.le_of_ble_eq_true rfl, Nat.le_of_ble_eq_true rfl⟩) rfl hl.1 rfl (Nat.le_of_ble_eq_true rfl) (dd_of dL_law_2 29 rfl) ⟨(show cells + 9 ≤ 600086 by omega), (show slots + 64 ≤ 7301442 by omega)⟩ (fun a3 ea3 => ?_)
    rw [e_jt] at ea3
    subst ea3
    refine lv_iadd hx hb (dd_of dL_law_2 30 rfl) ?_
    rw [show (8 + nI jt : Int32) = nI (8 + jt) from nI_add 8 jt]
    refine lv_istore (lv' := [(8, .int (nI (8 + jt))), (7, .int 1), (6, .int 0), (5, .int 0), (4, .int 0), (3, .int 0), (2, .int (nI k)), (1, .ref h0), (0, .ref sa)]) hx hb (dd_of dL_law_2 31 rfl) hl (by decide) rfl (fun ls hl => ?_)
    refine lv_iconst (v := 0) hx hb (dd_of dL_law_2 32 rfl) (by decide) ?_
    refine lv_istore (lv' := [(9, .int 0), (8, .int (nI (8 + jt))), (7, .int 1), (6, .int 0), (5, .int 0), (4, .int 0), (3, .int 0), (2, .int (nI k)), (1, .ref h0), (0, .ref sa)]) hx hb (dd_of dL_law_2 33 rfl) hl (by decide) rfl (fun ls hl => ?_)
    exact law_loop hl9 h0 an sa hx hb hml hown hts hK hT hN hA xs hL hX0 hbl hbA (tt := 8 + jt) hnb (by omega) kend (8 + jt) 0 (N + 1) 0 0 0 0 0 B1 B2 F1 G1 F2 G2 M1 FM1 GM1 H locs _ _ ls (by omega) hI1 (by omega) (by omega) ⟨by omega, by omega, by omega⟩ hV hD hS (lv_sub hl [2, 0, 1, 3, 4, 5, 6, 7, 8, 9] rfl) (show cells + 9 ≤ 500 + 1300 * 0 by omega) (show slots + 64 ≤ 6000 + 10000 * 0 by omega)
  | succ d ih =>
    intro k N B B2 F G F2 G2 M FM GM H locs cells slots ls hd hI hmo hN3 hV hD hS hl hce hsl
    refine lv_iload hx hb (dd_of dL_law_0 24 rfl) (lv_at hl 0 rfl) ?_
    refine lv_iload_n hx hb (dd_of dL_law_0 25 rfl) rfl (lv_at hl 6 rfl) ?_
    refine lv_icmp_ge (tgt := 168) hx hb (dd_of dL_law_0 26 rfl) (by decide) (fun c1 => absurd (i32le.mp c1) (by rw [nI_toInt (by omega), nI_toInt (by omega)]; omega)) (fun c1 => ?_)
    refine lv_iload hx hb (dd_of dL_law_0 27 rfl) (lv_at hl 1 rfl) ?_
    refine lv_if_eq (tgt := 168) hx hb (dd_of dL_law_0 28 rfl) (by decide) (fun c1 => absurd c1 d10) (fun c1 => ?_)
    refine lv_aload_n hx hb (dd_of dL_law_0 29 rfl) rfl (lv_at hl 8 rfl) ?_
    refine lv_iconst (v := 2) hx hb (dd_of dL_law_0 30 rfl) (by decide) ?_
    refine lv_iload hx hb (dd_of dL_law_0 31 rfl) (lv_at hl 0 rfl) ?_
    refine lv_iadd hx hb (dd_of dL_law_0 32 rfl) ?_
    refine kc_i (As := [.ref sa, .int (2 + (nI k))]) (rest := []) ⟨hx, hb, hml, hown, hts⟩ (qL_cell l sa L xs hL (2 + (nI k)) (show ¬ nI 2 + nI k < 0 by rw [nI_add]; exact nI_pos (by omega))) (va_cwS 2 hts (jgSo gw2002 gw2003 gw173 gw2004) rfl rfl rfl (by decide +kernel) ⟨Nat.le_of_ble_eq_true rfl, Nat.le_of_ble_eq_true rfl⟩) hX0 hbl hbA hS rfl hl.1 rfl (Nat.le_of_ble_eq_true rfl) (dd_of dL_law_0 33 rfl) ⟨(show cells ≤ 600086 by omega), (show slots ≤ 7301442 by omega)⟩ (fun v1 _ => ?_)
    refine lv_istore (lv' := [(9, .int v1), (8, .int (nI k)), (7, .int 1), (6, .int 0), (5, .int 0), (4, .int 0), (3, .int 0), (2, .int (nI nb)), (1, .ref h0), (0, .ref sa)]) hx hb (dd_of dL_law_0 34 rfl) hl (by decide) rfl (fun ls hl => ?_)
    refine lv_aload_n hx hb (dd_of dL_law_0 35 rfl) rfl (lv_at hl 8 rfl) ?_
    refine lv_iconst (v := 1) hx hb (dd_of dL_law_0 36 rfl) (by decide) ?_
    refine lv_iload hx hb (dd_of dL_law_0 37 rfl) (lv_at hl 0 rfl) ?_
    refine lv_bipush (v := 100) hx hb (dd_of dL_law_0 38 rfl) (by decide) ?_
    refine jc_si (As := [.int v1, .int 100]) (rest := [.int 1, .ref h0]) ⟨hx, hb, hml, hown, hts⟩ (qL_low l v1 100 (by decide)) (va_cwS 2 hts (jgSo gw2006 gw2007 gw173 gw2008) rfl rfl rfl (by decide +kernel) ⟨Nat.le_of_ble_eq_true rfl, Nat.le_of_ble_eq_true rfl⟩) rfl hl.1 rfl (Nat.le_of_ble_eq_true rfl) (dd_of dL_law_0 39 rfl) ⟨(show cells ≤ 600086 by omega), (show slots ≤ 7301442 by omega)⟩ (fun a2 ea2 => ?_)
    have ba2 := low_b v1 (n := 100) (by decide)
    rw [← ea2] at ba2
    refine lv_iadd hx hb (dd_of dL_law_1 0 rfl) ?_
    refine lv_iload hx hb (dd_of dL_law_1 1 rfl) (lv_at hl 0 rfl) ?_
    refine lv_bipush (v := 7) hx hb (dd_of dL_law_1 2 rfl) (by decide) ?_
    refine lv_ishr hx hb (dd_of dL_law_1 3 rfl) ?_
    refine lv_bipush (v := 9) hx hb (dd_of dL_law_1 4 rfl) (by decide) ?_
    refine jc_si (As := [.int (v1 >>> (7 &&& 31)), .int 9]) (rest := [.int (1 + a2), .ref h0]) ⟨hx, hb, hml, hown, hts⟩ (qL_low l (v1 >>> (7 &&& 31)) 9 (by decide)) (va_cwS 2 hts (jgSo gw2006 gw2007 gw173 gw2008) rfl rfl rfl (by decide +kernel) ⟨Nat.le_of_ble_eq_true rfl, Nat.le_of_ble_eq_true rfl⟩) rfl hl.1 rfl (Nat.le_of_ble_eq_true rfl) (dd_of dL_law_1 5 rfl) ⟨(show cells ≤ 600086 by omega), (show slots ≤ 7301442 by omega)⟩ (fun a3 ea3 => ?_)
    have ba3 := low_b (v1 >>> (7 &&& 31)) (n := 9) (by decide)
    rw [← ea3] at ba3
    refine lv_bipush (v := 6) hx hb (dd_of dL_law_1 6 rfl) (by decide) ?_
    refine lv_isub hx hb (dd_of dL_law_1 7 rfl) ?_
    have r1 := rng1 ba2 (M := 100) (by decide)
    have r2 := rngs (d := 6) (lo := -500) (hi := 500) ba3 (by decide) (by decide) (by decide)
    obtain ⟨ok, F1, G1, M1, FM1, GM1, eq, hI1, hm1⟩ := fe_addBasin hI (by omega) (by omega) r1.1 r1.2 r2.1 r2.2
    refine ka_i (As := [.int (1 + a2), .int (a3 - 6)]) (rest := []) (D := D) (yy := yy) (P0 := pV yy h0 an B B2 F G F2 G2 M) (gc := (gX11_addBasin F G M (1 + a2) (a3 - 6)).1) (w1 := fun u : ((Nat → Nat) × jS) × jF => pV yy h0 an u.1.1 B2 u.1.2.1 u.1.2.2 F2 G2 u.2) ⟨hx, hb, hml, hown, hts⟩ (qX11_addBasin l hl9 D yy h0 an B B2 F G F2 G2 M H.size (1 + a2) (a3 - 6) ok) (cwV 2 hts (jgV gw2010 gw178 gw179 gw2 gw180) rfl rfl rfl (by decide +kernel) ⟨Nat.le_of_ble_eq_true rfl, Nat.le_of_ble_eq_true rfl⟩) hV hK hT hD hS hA (va_recv hK hV (ci := 11) (q0 := 0) rfl rfl) rfl hl.1 rfl (Nat.le_of_ble_eq_true rfl) (dd_of dL_law_1 8 rfl) ⟨(show cells + 9 ≤ 600086 by omega), (show slots + 64 ≤ 7301442 by omega)⟩ (fun E ce q9 H locs hg0 _ _ _ _ _ _ => absurd (congrArg Prod.fst eq) hg0) (fun x4 u H locs hp hV hD hS => ?_)
    obtain ⟨⟨B1, F9, G9⟩, M9⟩ := u
    obtain ⟨hp, -⟩ := hp
    have e9 := (hp : gX11_addBasin F G M (1 + a2) (a3 - 6) = (0, (x4, ((F9, G9), M9)))).symm.trans eq
    have ex : (nI k) = x4 := (congrArg (fun z : Nat × (Int32 × (jS × jF)) => z.2.1) e9).symm
    have eF : F1 = F9 := (congrArg (fun z : Nat × (Int32 × (jS × jF)) => z.2.2.1.1) e9).symm
    have eG : G1 = G9 := (congrArg (fun z : Nat × (Int32 × (jS × jF)) => z.2.2.1.2) e9).symm
    have eM : M1 = M9 := (congrArg (fun z : Nat × (Int32 × (jS × jF)) => z.2.2.2) e9).symm
    subst ex
    subst eF
    subst eG
    subst eM
    have hV : va_P D vwCl (pV yy h0 an B1 B2 F1 G1 F2 G2 M1) H := hV
    have hD : va_D Z (pV yy h0 an B1 B2 F1 G1 F2 G2 M1) := hD
    refine lv_iload hx hb (dd_of dL_law_1 9 rfl) (lv_at hl 1 rfl) ?_
    refine lv_icmp_ne (tgt := 93) hx hb (dd_of dL_law_1 10 rfl) (by decide) (fun c1 => absurd rfl c1) (fun c1 => ?_)
    refine lv_iconst (v := 1) hx hb (dd_of dL_law_1 11 rfl) (by decide) ?_
    refine lv_goto (tgt := 94) hx hb (dd_of dL_law_1 12 rfl) (by decide) ?_
    refine lv_istore (lv' := [(7, .int 1), (9, .int v1), (8, .int (nI k)), (6, .int 0), (5, .int 0), (4, .int 0), (3, .int 0), (2, .int (nI nb)), (1, .ref h0), (0, .ref sa)]) hx hb (dd_of dL_law_1 14 rfl) hl (by decide) rfl (fun ls hl => ?_)
    refine lv_aload_n hx hb (dd_of dL_law_1 15 rfl) rfl (lv_at hl 8 rfl) ?_
    refine lv_iload hx hb (dd_of dL_law_1 16 rfl) (lv_at hl 2 rfl) ?_
    refine lv_iload hx hb (dd_of dL_law_1 17 rfl) (lv_at hl 1 rfl) ?_
    refine lv_iconst (v := 3) hx hb (dd_of dL_law_1 18 rfl) (by decide) ?_
    refine lv_ishr hx hb (dd_of dL_law_1 19 rfl) ?_
    refine lv_iconst (v := 3) hx hb (dd_of dL_law_1 20 rfl) (by decide) ?_
    refine jc_si (As := [.int (v1 >>> (3 &&& 31)), .int 3]) (rest := [.int (nI k), .ref h0]) ⟨hx, hb, hml, hown, hts⟩ (qL_low l (v1 >>> (3 &&& 31)) 3 (by decide)) (va_cwS 2 hts (jgSo gw2006 gw2007 gw173 gw2008) rfl rfl rfl (by decide +kernel) ⟨Nat.le_of_ble_eq_true rfl, Nat.le_of_ble_eq_true rfl⟩) rfl hl.1 rfl (Nat.le_of_ble_eq_true rfl) (dd_of dL_law_1 21 rfl) ⟨(show cells + 9 ≤ 600086 by omega), (show slots + 64 ≤ 7301442 by omega)⟩ (fun a5 ea5 => ?_)
    have ba5 := low_b (v1 >>> (3 &&& 31)) (n := 3) (by decide)
    rw [← ea5] at ba5
    refine lv_iload hx hb (dd_of dL_law_1 22 rfl) (lv_at hl 1 rfl) ?_
    refine lv_iconst (v := 5) hx hb (dd_of dL_law_1 23 rfl) (by decide) ?_
    refine lv_ishr hx hb (dd_of dL_law_1 24 rfl) ?_
    refine lv_sipush (v := 200) hx hb (dd_of dL_law_1 25 rfl) (by decide) ?_
    refine jc_si (As := [.int (v1 >>> (5 &&& 31)), .int 200]) (rest := [.int a5, .int (nI k), .ref h0]) ⟨hx, hb, hml, hown, hts⟩ (qL_low l (v1 >>> (5 &&& 31)) 200 (by decide)) (va_cwS 2 hts (jgSo gw2006 gw2007 gw173 gw2008) rfl rfl rfl (by decide +kernel) ⟨Nat.le_of_ble_eq_true rfl, Nat.le_of_ble_eq_true rfl⟩) rfl hl.1 rfl (Nat.le_of_ble_eq_true rfl) (dd_of dL_law_1 26 rfl) ⟨(show cells + 9 ≤ 600086 by omega), (show slots + 64 ≤ 7301442 by omega)⟩ (fun a6 ea6 => ?_)
    have ba6 := low_b (v1 >>> (5 &&& 31)) (n := 200) (by decide)
    rw [← ea6] at ba6
    refine lv_iload hx hb (dd_of dL_law_1 27 rfl) (lv_at hl 1 rfl) ?_
    refine lv_bipush (v := 9) hx hb (dd_of dL_law_1 28 rfl) (by decide) ?_
    refine lv_ishr hx hb (dd_of dL_law_1 29 rfl) ?_
    refine lv_iconst (v := 5) hx hb (dd_of dL_law_1 30 rfl) (by decide) ?_
    refine jc_si (As := [.int (v1 >>> (9 &&& 31)), .int 5]) (rest := [.int a6, .int a5, .int (nI k), .ref h0]) ⟨hx, hb, hml, hown, hts⟩ (qL_low l (v1 >>> (9 &&& 31)) 5 (by decide)) (va_cwS 2 hts (jgSo gw2006 gw2007 gw173 gw2008) rfl rfl rfl (by decide +kernel) ⟨Nat.le_of_ble_eq_true rfl, Nat.le_of_ble_eq_true rfl⟩) rfl hl.1 rfl (Nat.le_of_ble_eq_true rfl) (dd_of dL_law_1 31 rfl) ⟨(show cells + 9 ≤ 600086 by omega), (show slots + 64 ≤ 7301442 by omega)⟩ (fun a7 ea7 => ?_)
    have ba7 := low_b (v1 >>> (9 &&& 31)) (n := 5) (by decide)
    rw [← ea7] at ba7
    have r3 := rng0 ba5 (M := 20) (by decide)
    have r4 := rng0 ba6 (M := 9999) (by decide)
    have r5 := rng0 ba7 (M := 99) (by decide)
    obtain ⟨ok2, Fs, Gs, Ms, FMs, GMs, eq2, hIs, hm2⟩ := fe_setLand hI1 (by omega) (k := k) (by omega) r3.1 r3.2 r4.1 r4.2 r5.1 r5.2
    refine ka_v (As := [.int (nI k), .int a5, .int a6, .int a7]) (rest := []) (D := D) (yy := yy) (P0 := pV yy h0 an B1 B2 F1 G1 F2 G2 M1) (gc := (gX11_setLand F1 G1 M1 (nI k) a5 a6 a7).1) (w1 := fun u : ((Nat → Nat) × jS) × jF => pV yy h0 an u.1.1 B2 u.1.2.1 u.1.2.2 F2 G2 u.2) ⟨hx, hb, hml, hown, hts⟩ (qX11_setLand l hl9 D yy h0 an B1 B2 F1 G1 F2 G2 M1 H.size (nI k) a5 a6 a7 ok2) (cwV 4 hts (jgV gw2011 gw603 gw604 gw2 gw605) rfl rfl rfl (by decide +kernel) ⟨Nat.le_of_ble_eq_true rfl, Nat.le_of_ble_eq_true rfl⟩) hV hK hT hD hS hA (va_recv hK hV (ci := 11) (q0 := 0) rfl rfl) rfl hl.1 rfl (Nat.le_of_ble_eq_true rfl) (dd_of dL_law_1 32 rfl) ⟨(show cells + 9 + 9 ≤ 600086 by omega), (show slots + 64 + 64 ≤ 7301442 by omega)⟩ (fun E ce q9 H locs hg0 _ _ _ _ _ _ => absurd (congrArg Prod.fst eq2) hg0) (fun u H locs hp hV hD hS => ?_)
    obtain ⟨⟨Bs, F9, G9⟩, M9⟩ := u
    obtain ⟨hp, -⟩ := hp
    have e9 := (hp : gX11_setLand F1 G1 M1 (nI k) a5 a6 a7 = (0, ((F9, G9), M9))).symm.trans eq2
    have eF : Fs = F9 := (congrArg (fun z : Nat × (jS × jF) => z.2.1.1) e9).symm
    have eG : Gs = G9 := (congrArg (fun z : Nat × (jS × jF) => z.2.1.2) e9).symm
    have eM : Ms = M9 := (congrArg (fun z : Nat × (jS × jF) => z.2.2) e9).symm
    subst eF
    subst eG
    subst eM
    have hV : va_P D vwCl (pV yy h0 an Bs B2 Fs Gs F2 G2 Ms) H := hV
    have hD : va_D Z (pV yy h0 an Bs B2 Fs Gs F2 G2 Ms) := hD
    refine lv_iload hx hb (dd_of dL_law_1 33 rfl) (lv_at hl 0 rfl) ?_
    refine lv_if_eq (tgt := 159) hx hb (dd_of dL_law_1 34 rfl) (by decide) (fun c1 => absurd c1 d10) (fun c1 => ?_)
    refine lv_aload_n hx hb (dd_of dL_law_1 35 rfl) rfl (lv_at hl 8 rfl) ?_
    refine lv_iload hx hb (dd_of dL_law_1 36 rfl) (lv_at hl 2 rfl) ?_
    refine lv_iload hx hb (dd_of dL_law_1 37 rfl) (lv_at hl 1 rfl) ?_
    refine lv_iconst (v := 4) hx hb (dd_of dL_law_1 38 rfl) (by decide) ?_
    refine lv_ishr hx hb (dd_of dL_law_1 39 rfl) ?_
    refine lv_sipush (v := 2000) hx hb (dd_of dL_law_2 0 rfl) (by decide) ?_
    refine jc_si (As := [.int (v1 >>> (4 &&& 31)), .int 2000]) (rest := [.int (nI k), .ref h0]) ⟨hx, hb, hml, hown, hts⟩ (qL_low l (v1 >>> (4 &&& 31)) 2000 (by decide)) (va_cwS 2 hts (jgSo gw2006 gw2007 gw173 gw2008) rfl rfl rfl (by decide +kernel) ⟨Nat.le_of_ble_eq_true rfl, Nat.le_of_ble_eq_true rfl⟩) rfl hl.1 rfl (Nat.le_of_ble_eq_true rfl) (dd_of dL_law_2 1 rfl) ⟨(show cells + 9 + 9 ≤ 600086 by omega), (show slots + 64 + 64 ≤ 7301442 by omega)⟩ (fun a9 ea9 => ?_)
    have ba9 := low_b (v1 >>> (4 &&& 31)) (n := 2000) (by decide)
    rw [← ea9] at ba9
    have r6 := rng0 ba9 (M := 1000000) (by decide)
    obtain ⟨ok3, xp, Fp, Gp, Mp, FMp, GMp, eq3, hxp, hIp, hm3⟩ := fe_pour hIs (by omega) (k := k) (by omega) r6.1 r6.2
    refine ka_l (As := [.int (nI k), .int a9]) (rest := []) (D := D) (yy := yy) (P0 := pV yy h0 an Bs B2 Fs Gs F2 G2 Ms) (gc := (gX11_pour Fs Gs Ms (nI k) a9).1) (w1 := fun u : ((Nat → Nat) × jS) × jF => pV yy h0 an u.1.1 B2 u.1.2.1 u.1.2.2 F2 G2 u.2) ⟨hx, hb, hml, hown, hts⟩ (qX11_pour l hl9 D yy h0 an Bs B2 Fs Gs F2 G2 Ms H.size (nI k) a9 ok3) (cwV 2 hts (jgV gw2012 gw625 gw626 gw2 gw627) rfl rfl rfl (by decide +kernel) ⟨Nat.le_of_ble_eq_true rfl, Nat.le_of_ble_eq_true rfl⟩) hV hK hT hD hS hA (va_recv hK hV (ci := 11) (q0 := 0) rfl rfl) rfl hl.1 rfl (Nat.le_of_ble_eq_true rfl) (dd_of dL_law_2 2 rfl) ⟨(show cells + 9 + 9 + 9 ≤ 600086 by omega), (show slots + 64 + 64 + 64 ≤ 7301442 by omega)⟩ (fun E ce q9 H locs hg0 _ _ _ _ _ _ => absurd (congrArg Prod.fst eq3) hg0) (fun x10 u H locs hp hV hD hS => ?_)
    obtain ⟨⟨Bp, F9, G9⟩, M9⟩ := u
    obtain ⟨hp, -⟩ := hp
    have e9 := (hp : gX11_pour Fs Gs Ms (nI k) a9 = (0, (x10, ((F9, G9), M9)))).symm.trans eq3
    have ex : xp = x10 := (congrArg (fun z : Nat × (Int64 × (jS × jF)) => z.2.1) e9).symm
    have eF : Fp = F9 := (congrArg (fun z : Nat × (Int64 × (jS × jF)) => z.2.2.1.1) e9).symm
    have eG : Gp = G9 := (congrArg (fun z : Nat × (Int64 × (jS × jF)) => z.2.2.1.2) e9).symm
    have eM : Mp = M9 := (congrArg (fun z : Nat × (Int64 × (jS × jF)) => z.2.2.2) e9).symm
    subst ex
    subst eF
    subst eG
    subst eM
    have hV : va_P D vwCl (pV yy h0 an Bp B2 Fp Gp F2 G2 Mp) H := hV
    have hD : va_D Z (pV yy h0 an Bp B2 Fp Gp F2 G2 Mp) := hD
    refine lv_lconst (v := 0) hx hb (dd_of dL_law_2 3 rfl) (by decide) ?_
    refine jl_lt (tgt := 159) hx hb (dd_of dL_law_2 4 rfl) (dd_of dL_law_2 5 rfl) (by decide) (fun c1 => absurd c1 hxp) (fun c1 => ?_)
    refine lv_iconst (v := 1) hx hb (dd_of dL_law_2 6 rfl) (by decide) ?_
    refine lv_goto (tgt := 160) hx hb (dd_of dL_law_2 7 rfl) (by decide) ?_
    refine lv_istore (lv' := [(7, .int 1), (9, .int v1), (8, .int (nI k)), (6, .int 0), (5, .int 0), (4, .int 0), (3, .int 0), (2, .int (nI nb)), (1, .ref h0), (0, .ref sa)]) hx hb (dd_of dL_law_2 9 rfl) hl (by decide) rfl (fun ls hl => ?_)
    refine lv_iinc (v := nI (k + 1)) (lv' := [(8, .int (nI (k + 1))), (7, .int 1), (9, .int v1), (6, .int 0), (5, .int 0), (4, .int 0), (3, .int 0), (2, .int (nI nb)), (1, .ref h0), (0, .ref sa)]) hx hb (dd_of dL_law_2 10 rfl) hl (k := 2) rfl (show nI k + nI 1 = nI (k + 1) from nI_add _ _) (by decide) rfl (fun ls hl => ?_)
    refine lv_goto (tgt := 37) hx hb (dd_of dL_law_2 11 rfl) (by decide) ?_
    exact ih (k + 1) (N + 1 + 1 + 1) Bp B2 Fp Gp F2 G2 Mp FMp GMp H locs _ _ ls (by omega) hIp (by rw [hm3, hm2, hm1]; exact hmo) (by omega) hV hD hS (lv_sub hl [0, 1, 3, 4, 5, 6, 7, 8, 9] rfl) (show cells + 9 + 9 + 9 ≤ 100 + 27 * (k + 1) by omega) (show slots + 64 + 64 + 64 ≤ 4000 + 192 * (k + 1) by omega)
