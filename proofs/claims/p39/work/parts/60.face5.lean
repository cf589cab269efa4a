-- pumps, money
theorem gt_c {F FM : jF} (G : jG) (hN : wN F) (hR : ag shF F FM) (p : Int32) : (∃ j, j < cn F 17 ∧ j < 8 ∧ p = nI j ∧ gX11_needGate F G p = some j ∧ gX5_gateAt F G p = some j ∧ gX12_in p 0 (FM 17 0 - 1) = 1) ∨ (gX11_needGate F G p = none ∧ gX5_gateAt F G p = none ∧ gX12_in p 0 (FM 17 0 - 1) = 0) := by
  have h8 : F 17 0 = nI (cn F 17) ∧ cn F 17 ≤ 8 := hN.1.2.1
  have e8 : FM 17 0 = nI (cn F 17) := by rw [hR.at 17 (by decide)]; exact h8.1
  have y1 : (1 : Int32).toInt = 1 := rfl
  have em : (nI (cn F 17) - 1).toInt = (cn F 17 : Int) - 1 := by rw [i32s (by rw [nI_toInt (by omega), y1]; omega) (by rw [nI_toInt (by omega), y1]; omega), nI_toInt (by omega), y1]
  rw [e8]
  by_cases c1 : p < 0
  · right
    have hb : gX5_gateAt F G p = none := by unfold gX5_gateAt; rw [if_pos c1]
    exact ⟨by unfold gX11_needGate; rw [hb, bvd, om_n], hb, in_z.mpr (Or.inl c1)⟩
  · obtain ⟨j, hj, rfl⟩ := nI_of c1
    by_cases c2 : j < cn F 17
    · left
      have hb : gX5_gateAt F G (nI j) = some j := by
        unfold gX5_gateAt
        rw [if_neg c1, n8, if_pos (nI_lt (by omega) (by omega)), bvd, nI_clamp (by omega), op_in c2]
      refine ⟨j, c2, by omega, rfl, by unfold gX11_needGate; rw [hb, bvd, om_s], hb, ?_⟩
      unfold gX12_in
      rw [if_neg c1, if_neg (show ¬ nI (cn F 17) - 1 < nI j by rw [i32lt, em, nI_toInt hj]; omega)]
    · right
      have hb : gX5_gateAt F G (nI j) = none := by
        unfold gX5_gateAt
        rw [if_neg c1]
        split
        · rw [bvd, nI_clamp hj, op_no c2]
        · rfl
      exact ⟨by unfold gX11_needGate; rw [hb, bvd, om_n], hb, in_z.mpr (Or.inr (by rw [i32lt, em, nI_toInt hj]; omega))⟩
theorem pu_c {F FM : jF} (G : jG) (hN : wN F) (hR : ag shF F FM) (p : Int32) : (∃ j, j < cn F 23 ∧ j < 8 ∧ p = nI j ∧ gX11_needPump F G p = some j ∧ gX5_pumpAt F G p = some j ∧ gX12_in p 0 (FM 23 0 - 1) = 1) ∨ (gX11_needPump F G p = none ∧ gX5_pumpAt F G p = none ∧ gX12_in p 0 (FM 23 0 - 1) = 0) := by
  have h8 : F 23 0 = nI (cn F 23) ∧ cn F 23 ≤ 8 := hN.1.2.2.1
  have e8 : FM 23 0 = nI (cn F 23) := by rw [hR.at 23 (by decide)]; exact h8.1
  have y1 : (1 : Int32).toInt = 1 := rfl
  have em : (nI (cn F 23) - 1).toInt = (cn F 23 : Int) - 1 := by rw [i32s (by rw [nI_toInt (by omega), y1]; omega) (by rw [nI_toInt (by omega), y1]; omega), nI_toInt (by omega), y1]
  rw [e8]
  by_cases c1 : p < 0
  · right
    have hb : gX5_pumpAt F G p = none := by unfold gX5_pumpAt; rw [if_pos c1]
    exact ⟨by unfold gX11_needPump; rw [hb, bvd, om_n], hb, in_z.mpr (Or.inl c1)⟩
  · obtain ⟨j, hj, rfl⟩ := nI_of c1
    by_cases c2 : j < cn F 23
    · left
      have hb : gX5_pumpAt F G (nI j) = some j := by
        unfold gX5_pumpAt
        rw [if_neg c1, n8, if_pos (nI_lt (by omega) (by omega)), bvd, nI_clamp (by omega), op_in c2]
      refine ⟨j, c2, by omega, rfl, by unfold gX11_needPump; rw [hb, bvd, om_s], hb, ?_⟩
      unfold gX12_in
      rw [if_neg c1, if_neg (show ¬ nI (cn F 23) - 1 < nI j by rw [i32lt, em, nI_toInt hj]; omega)]
    · right
      have hb : gX5_pumpAt F G (nI j) = none := by
        unfold gX5_pumpAt
        rw [if_neg c1]
        split
        · rw [bvd, nI_clamp hj, op_no c2]
        · rfl
      exact ⟨by unfold gX11_needPump; rw [hb, bvd, om_n], hb, in_z.mpr (Or.inr (by rw [i32lt, em, nI_toInt hj]; omega))⟩
theorem dy_c {F FM : jF} (G : jG) (hN : wN F) (hR : ag shF F FM) (p : Int32) : (∃ j, j < cn F 32 ∧ j < 8 ∧ p = nI j ∧ gX11_needDyke F G p = some j ∧ gX5_dykeAt F G p = some j ∧ gX12_in p 0 (FM 32 0 - 1) = 1) ∨ (gX11_needDyke F G p = none ∧ gX5_dykeAt F G p = none ∧ gX12_in p 0 (FM 32 0 - 1) = 0) := by
  have h8 : F 32 0 = nI (cn F 32) ∧ cn F 32 ≤ 8 := hN.1.2.2.2
  have e8 : FM 32 0 = nI (cn F 32) := by rw [hR.at 32 (by decide)]; exact h8.1
  have y1 : (1 : Int32).toInt = 1 := rfl
  have em : (nI (cn F 32) - 1).toInt = (cn F 32 : Int) - 1 := by rw [i32s (by rw [nI_toInt (by omega), y1]; omega) (by rw [nI_toInt (by omega), y1]; omega), nI_toInt (by omega), y1]
  rw [e8]
  by_cases c1 : p < 0
  · right
    have hb : gX5_dykeAt F G p = none := by unfold gX5_dykeAt; rw [if_pos c1]
    exact ⟨by unfold gX11_needDyke; rw [hb, bvd, om_n], hb, in_z.mpr (Or.inl c1)⟩
  · obtain ⟨j, hj, rfl⟩ := nI_of c1
    by_cases c2 : j < cn F 32
    · left
      have hb : gX5_dykeAt F G (nI j) = some j := by
        unfold gX5_dykeAt
        rw [if_neg c1, n8, if_pos (nI_lt (by omega) (by omega)), bvd, nI_clamp (by omega), op_in c2]
      refine ⟨j, c2, by omega, rfl, by unfold gX11_needDyke; rw [hb, bvd, om_s], hb, ?_⟩
      unfold gX12_in
      rw [if_neg c1, if_neg (show ¬ nI (cn F 32) - 1 < nI j by rw [i32lt, em, nI_toInt hj]; omega)]
    · right
      have hb : gX5_dykeAt F G (nI j) = none := by
        unfold gX5_dykeAt
        rw [if_neg c1]
        split
        · rw [bvd, nI_clamp hj, op_no c2]
        · rfl
      exact ⟨by unfold gX11_needDyke; rw [hb, bvd, om_n], hb, in_z.mpr (Or.inr (by rw [i32lt, em, nI_toInt hj]; omega))⟩
theorem ga_ok2 {F : jF} {G : jG} (p : Int32) : okX5_gateAt F G p := by
  unfold okX5_gateAt
  refine ⟨fun _ => trivial, fun h => ⟨fun h8 => ?_, fun _ => trivial⟩⟩
  obtain ⟨j, hj, rfl⟩ := nI_of h
  rw [n8] at h8
  exact nI_vin ((nI_ltI hj (by omega)).mp h8) (by omega)
theorem pa_ok2 {F : jF} {G : jG} (p : Int32) : okX5_pumpAt F G p := by
  unfold okX5_pumpAt
  refine ⟨fun _ => trivial, fun h => ⟨fun h8 => ?_, fun _ => trivial⟩⟩
  obtain ⟨j, hj, rfl⟩ := nI_of h
  rw [n8] at h8
  exact nI_vin ((nI_ltI hj (by omega)).mp h8) (by omega)
theorem mo_c {F : jF} {GM : jG} (G : jG) (e : (F 62 0).toInt64 = GM 2 0) {x : Int32} {y : Int64} (hy : x.toInt64 = y) : (gX11_needMoney F G x = 0 ∧ y ≤ GM 2 0 ∧ x.toInt ≤ (F 62 0).toInt) ∨ (gX11_needMoney F G x = 3 ∧ ¬ y ≤ GM 2 0) := by
  unfold gX11_needMoney
  rw [← e, ← hy, i64le, i3264, i3264]
  by_cases c : x ≤ F 62 0
  · have c1 := c
    rw [i32le] at c1
    rw [if_pos c]; exact Or.inl ⟨rfl, c1, c1⟩
  · have c1 := c
    rw [i32le] at c1
    rw [if_neg c]; exact Or.inr ⟨rfl, c1⟩
theorem RR_money {b : Int} {c : Nat} {F FM : jF} {G GM : jG} (h : RR b c F G FM GM) {v : Int32} (a1 : 0 ≤ v.toInt) (a2 : v.toInt ≤ 9999 * (c : Int)) : RR b c (u2 F 62 0 v) G FM (u2 GM 2 0 v.toInt64) := by
  obtain ⟨⟨⟨x1, x2, x3, x4, x5, x6⟩, ⟨g1, g2, g3⟩, ⟨g4, g5, g6⟩, g7, g8⟩, ⟨h3, h4⟩, ⟨r1, r2, r3, r4, r5, r6⟩⟩ := h
  have n1 : wN (u2 F 62 0 v) := wN_c (ag_off F (by decide) 0 v) x1
  have a0 : ag [3, 64, 65, 66, 67] F (u2 F 62 0 v) := ag_off F (by decide) 0 v
  refine ⟨⟨⟨n1, wB_c (ag_off F (by decide) 0 v) rfl (fun _ _ => rfl) x2, wL_c (ag_off F (by decide) 0 v) x3, wS_c (ag_off F (by decide) 0 v) x4, wO_c (ag_off F (by decide) 0 v) x5, wZ_c x1 n1 (ag_off F (by decide) 0 v) (ag_rf _ G) x6⟩, ⟨wG_c (ag_off F (by decide) 0 v) g1, wP_c (ag_off F (by decide) 0 v) g2, wD_c (ag_off F (by decide) 0 v) rfl g3⟩, ⟨wR_c (ag_off F (by decide) 0 v) g4, wC_c (ag_off F (by decide) 0 v) g5, wWk_c (ag_off F (by decide) 0 v) g6⟩, ?_, wT_c (u2_other F (by decide : 16 ≠ 62) 0 v) g8⟩, ⟨fun k hk => by rw [u2_other F (fun e => by subst e; revert hk; decide)]; exact h3 k hk, fun k hk => by rw [u2_other GM (fun e => by subst e; revert hk; decide)]; exact h4 k hk⟩, ?_⟩
  · unfold wM
    rw [u2_at, a0.at 3 (by decide)]
    exact ⟨⟨a1, a2⟩, g7.2⟩
  · unfold rX
    rw [u2_at, u2_at, a0.at 64 (by decide), wkC_c (fun k hk => a0 k (by revert hk; simp; omega)), u2_other F (by decide : 50 ≠ 62)]
    exact ⟨rfl, r2, r3, r4, r5, r6⟩
theorem RR_31 {b : Int} {c : Nat} {F FM : jF} {G GM : jG} (h : RR b c F G FM GM) (j : Nat) : RR b c (u2 F 31 j 0) G (u2 FM 31 j 0) GM := by
  obtain ⟨⟨⟨x1, x2, x3, x4, x5, x6⟩, ⟨g1, g2, g3⟩, ⟨g4, g5, g6⟩, g7, g8⟩, ⟨h3, h4⟩, h5⟩ := h
  have n1 : wN (u2 F 31 j 0) := wN_c (ag_off F (by decide) j 0) x1
  have a0 : ag [8, 23, 24, 25, 26, 27, 28, 29, 30] F (u2 F 31 j 0) := ag_off F (by decide) j 0
  refine ⟨⟨⟨n1, wB_c (ag_off F (by decide) j 0) rfl (fun _ _ => rfl) x2, wL_c (ag_off F (by decide) j 0) x3, wS_c (ag_off F (by decide) j 0) x4, wO_c (ag_off F (by decide) j 0) x5, wZ_c x1 n1 (ag_off F (by decide) j 0) (ag_rf _ G) x6⟩, ⟨wG_c (ag_off F (by decide) j 0) g1, fun i => ?_, wD_c (ag_off F (by decide) j 0) rfl g3⟩, ⟨wR_c (ag_off F (by decide) j 0) g4, wC_c (ag_off F (by decide) j 0) g5, wWk_c (ag_off F (by decide) j 0) g6⟩, wM_c (ag_off F (by decide) j 0) g7, wT_c (u2_other F (by decide : 16 ≠ 31) j 0) g8⟩, ⟨ag_u2 h3 31 j rfl, h4⟩, rX_c (ag_off F (by decide) j 0) (ag_off FM (by decide) j 0) rfl rfl h5⟩
  obtain ⟨w1, w2, w3, w4, w5⟩ := g2 i
  rw [cn_of (a0.at 23 (by decide)), a0.at 24 (by decide), a0.at 25 (by decide), a0.at 26 (by decide), a0.at 27 (by decide), a0.at 28 (by decide), a0.at 29 (by decide), a0.at 30 (by decide), u2_same]
  refine ⟨fun hi => ⟨wy_c (a0.at 8 (by decide)) (w1 hi).1, (w1 hi).2⟩, w2, w3, ?_, fun hi => ⟨(w5 hi).1, (w5 hi).2.1, ?_⟩⟩
  · split
    · decide
    · exact w4
  · split
    · rfl
    · exact (w5 hi).2.2
theorem RR_3 {b : Int} {c : Nat} {F FM : jF} {G GM : jG} (h : RR b c F G FM GM) {p : Int32} (a1 : 0 ≤ p.toInt) (a2 : p.toInt ≤ 9999) : RR b c (u2 F 3 0 p) G (u2 FM 3 0 p) GM := by
  obtain ⟨⟨⟨x1, x2, x3, x4, x5, x6⟩, ⟨g1, g2, g3⟩, ⟨g4, g5, g6⟩, g7, g8⟩, ⟨h3, h4⟩, h5⟩ := h
  have n1 : wN (u2 F 3 0 p) := wN_c (ag_off F (by decide) 0 p) x1
  refine ⟨⟨⟨n1, wB_c (ag_off F (by decide) 0 p) rfl (fun _ _ => rfl) x2, wL_c (ag_off F (by decide) 0 p) x3, wS_c (ag_off F (by decide) 0 p) x4, wO_c (ag_off F (by decide) 0 p) x5, wZ_c x1 n1 (ag_off F (by decide) 0 p) (ag_rf _ G) x6⟩, ⟨wG_c (ag_off F (by decide) 0 p) g1, wP_c (ag_off F (by decide) 0 p) g2, wD_c (ag_off F (by decide) 0 p) rfl g3⟩, ⟨wR_c (ag_off F (by decide) 0 p) g4, wC_c (ag_off F (by decide) 0 p) g5, wWk_c (ag_off F (by decide) 0 p) g6⟩, ?_, wT_c (u2_other F (by decide : 16 ≠ 3) 0 p) g8⟩, ⟨ag_u2 h3 3 0 rfl, h4⟩, rX_c (ag_off F (by decide) 0 p) (ag_off FM (by decide) 0 p) rfl rfl h5⟩
  unfold wM at *
  rw [u2_other F (by decide : 62 ≠ 3), u2_at]
  exact ⟨g7.1, a1, a2⟩
theorem fm_budget {n : Nat} {F F2 : jF} {G G2 : jG} {M FM : jF} {GM : jG} (h : Iv n F G F2 G2 M FM GM) (hn : n < 512) (p1 p2 : Int32) : okX11_budget F G M p1 p2 ∧ rM n F G F2 G2 M FM GM (fun x : Int32 => x.toInt64) (fun x : Int32 => x.toInt64) (wk 2 9 9) [2] (gX11_budget F G M p1 p2) (gX12_budget FM GM p1 p2) := by
  have hr0 := Iv_rr h hn 0
  have hrb := (Iv_b h).1
  have hN := hrb.1.1.1
  have hR := hrb.2.1.1
  have hG := hrb.2.1.2
  rcases nr_c p1 0 9999 with ⟨a1_0, a2_0, a3_0, a4_0⟩ | ⟨a1_0, a2_0⟩
  · skip
    rcases nr_c p2 0 9999 with ⟨a1_1, a2_1, a3_1, a4_1⟩ | ⟨a1_1, a2_1⟩
    · skip
      have hm := (hrb.1.2.2.2.1).1
      have a30 : (0 : Int32).toInt = 0 := rfl
      have a39 : (9999 : Int32).toInt = 9999 := rfl
      have ea : (F 62 0 + p2).toInt = (F 62 0).toInt + p2.toInt := i32a (by omega) (by omega)
      have hrr := RR_money (RR_3 hr0 a3_0 a4_0) (v := F 62 0 + p2) (by rw [ea]; omega) (by rw [ea]; omega)
      have e2 : (F 62 0 + p2).toInt64 = GM 2 0 + p2.toInt64 := by rw [← hrb.2.2.1, i64eq, i3264, ea, i64a (by rw [i3264, i3264]; omega) (by rw [i3264, i3264]; omega), i3264, i3264]
      have h0 : cn (u2 (u2 F 3 0 p1) 62 0 (F 62 0 + p2)) 0 = cn F 0 := cn_of (by rw [u2_other _ (by decide : 0 ≠ 62), u2_other _ (by decide : 0 ≠ 3)])
      have hs : gX1_grant F G p1 p2 = (F 62 0 + p2, (u2 (u2 F 3 0 p1) 62 0 (F 62 0 + p2), G)) := by unfold gX1_grant; rw [bvd, bvd, u2_at, u2_other _ (by decide : 62 ≠ 3)]
      obtain ⟨M1, m1, m2, m3, m4⟩ := Iv_act (F1 := u2 (u2 F 3 0 p1) 62 0 (F 62 0 + p2)) (G1 := G) h hn 15 p1 p2 0 0 0 (ov_15 trivial) (by rw [ac_15, hs]) (by rw [h0]; exact hrr)
      refine ⟨?_, Or.inl ⟨(F 62 0 + p2), _, _, M1, (F 62 0 + p2), _, _, ?_, ?_, ?_, ?_, m4⟩⟩
      · unfold okX11_budget
        rw [bvd]; intro _
        rw [bvd]; intro _
        refine ⟨(m1 _).2, ?_⟩
        rw [(m1 _).1, brd]; exact m3
      · unfold gX11_budget
        rw [bvd, a1_0, if_pos rfl, bvd, a1_1, if_pos rfl, (m1 _).1, brd, brd]
        show (0, (Int64.toInt32 (gX5_act F G (M1 82) (nI (6 * (M 80 0).toNatClampNeg))).1, ((gX5_act F G (M1 82) (nI (6 * (M 80 0).toNatClampNeg))).2, M1))) = _
        rw [m2, ac_15, hs, ti32]
      · unfold gX12_budget
        simp only [bvd, a2_0, a2_1, u2_at, u2_other _ (show 60 ≠ 3 by decide), if_false, if_true, reduceIte, ← e2, ti32]
        rfl
      · simp only [u2_other _ (show 60 ≠ 3 by decide), u2_at]
      · rfl
    · refine ⟨?_, Or.inr ⟨2, 0, 0, 1, by decide, ?_, ?_, rfl⟩⟩
      · unfold okX11_budget
        rw [bvd]; intro _
        rw [bvd]; intro e; rw [a1_1] at e; exact absurd e (by decide)
      · unfold gX11_budget
        rw [bvd, a1_0, if_pos rfl, bvd, a1_1, if_neg (by decide)]
      · unfold gX12_budget
        simp only [bvd, a2_0, a2_1, u2_at, if_false, if_true, reduceIte]
        first | rfl | skip
  · refine ⟨?_, Or.inr ⟨2, 0, 0, 1, by decide, ?_, ?_, rfl⟩⟩
    · unfold okX11_budget
      rw [bvd]; intro e; rw [a1_0] at e; exact absurd e (by decide)
    · unfold gX11_budget
      rw [bvd, a1_0, if_neg (by decide)]
    · unfold gX12_budget
      simp only [bvd, a2_0, u2_at, if_false, if_true, reduceIte]
      first | rfl | skip
theorem fm_mend {n : Nat} {F F2 : jF} {G G2 : jG} {M FM : jF} {GM : jG} (h : Iv n F G F2 G2 M FM GM) (hn : n < 512) (p1 : Int32) : okX11_mend F G M p1 ∧ okX12_mend FM GM p1 ∧ rM n F G F2 G2 M FM GM (fun x : Int32 => x.toInt64) (fun x : Int32 => x.toInt64) (wk 1 3 9) [1, 3] (gX11_mend F G M p1) (gX12_mend FM GM p1) := by
  have hr0 := Iv_rr h hn 0
  have hrb := (Iv_b h).1
  have hN := hrb.1.1.1
  have hR := hrb.2.1.1
  have hG := hrb.2.1.2
  rcases pu_c G hN hR p1 with ⟨j0, hj0, hj8_0, e1_0, e2_0, e3_0, e4_0⟩ | ⟨e2_0, e3_0, e4_0⟩
  · skip
    rcases mo_c G hrb.2.2.1 (x := 20) (y := 20) rfl with ⟨a1_1, a2_1, a3_1⟩ | ⟨a1_1, a2_1⟩
    · skip
      have hm := (hrb.1.2.2.2.1).1
      have a20 : (20 : Int32).toInt = 20 := rfl
      have b20 : (20 : Int64).toInt = 20 := rfl
      have ea : (F 62 0 - 20).toInt = (F 62 0).toInt - 20 := by rw [i32s (by rw [a20]; omega) (by rw [a20]; omega), a20]
      have hrr := RR_31 (RR_money hr0 (v := F 62 0 - 20) (by rw [ea]; omega) (by rw [ea]; omega)) j0
      have e2 : (F 62 0 - 20).toInt64 = GM 2 0 - 20 := by rw [← hrb.2.2.1, i64eq, i3264, ea, i64s (by rw [i3264, b20]; omega) (by rw [i3264, b20]; omega), i3264, b20]
      have h0 : cn (u2 (u2 F 62 0 (F 62 0 - 20)) 31 j0 0) 0 = cn F 0 := cn_of (by rw [u2_other _ (by decide : 0 ≠ 31), u2_other _ (by decide : 0 ≠ 62)])
      have hs : gX5_mendPump F G (gX5_pumpAt F G p1) = (F 31 j0, (u2 (u2 F 62 0 (F 62 0 - 20)) 31 j0 0, G)) := by unfold gX5_mendPump; rw [e3_0, om_s, bvd, bvd, bvd, u2_other _ (by decide : 31 ≠ 62)]
      have hso : okX5_mendPump F G (gX5_pumpAt F G p1) := by unfold okX5_mendPump; rw [e3_0, om_s, bvd, bvd, cn_of (u2_other F (by decide : 23 ≠ 62) 0 (F 62 0 - 20))]; exact ⟨hj0, hj0⟩
      obtain ⟨M1, m1, m2, m3, m4⟩ := Iv_act (F1 := u2 (u2 F 62 0 (F 62 0 - 20)) 31 j0 0) (G1 := G) h hn 13 p1 0 0 0 0 (ov_13 ⟨pa_ok2 _, hso⟩) (by rw [ac_13, hs]) (by rw [h0]; exact hrr)
      have hv : vp_in p1 8 := by rw [e1_0]; exact nI_vin hj8_0 (by omega)
      have ecl : p1.toNatClampNeg = j0 := by rw [e1_0]; exact nI_clamp (by omega)
      have r31 := hR.at 31 (by decide)
      refine ⟨?_, ?_, Or.inl ⟨(F 31 j0), _, _, M1, (F 31 j0), _, _, ?_, ?_, ?_, ?_, m4⟩⟩
      · unfold okX11_mend
        refine ⟨pa_ok2 _, ?_⟩
        rw [e2_0, om_s]
        rw [bvd]; intro _
        refine ⟨(m1 _).2, ?_⟩
        rw [(m1 _).1, brd]; exact m3
      · unfold okX12_mend
        simp only [bvd, e4_0, a2_1, u2_at, if_false, if_true, reduceIte]
        first | exact ⟨fun _ => ⟨hv, hv⟩, fun _ => trivial⟩ | exact ⟨hv, hv⟩ | skip
      · unfold gX11_mend
        rw [e2_0, om_s, bvd, a1_1, if_pos rfl, (m1 _).1, brd, brd]
        show (0, (Int64.toInt32 (gX5_act F G (M1 82) (nI (6 * (M 80 0).toNatClampNeg))).1, ((gX5_act F G (M1 82) (nI (6 * (M 80 0).toNatClampNeg))).2, M1))) = _
        rw [m2, ac_13, hs, ti32]
      · unfold gX12_mend
        simp only [bvd, e4_0, a2_1, u2_at, u2_other _ (show 31 ≠ 60 by decide), if_false, if_true, reduceIte, ecl, r31, ← e2]
        rfl
      · simp only [u2_other _ (show 60 ≠ 31 by decide), u2_at]
      · rfl
    · refine ⟨?_, ?_, Or.inr ⟨3, 0, 0, 2, by decide, ?_, ?_, rfl⟩⟩
      · unfold okX11_mend
        refine ⟨pa_ok2 _, ?_⟩
        rw [e2_0, om_s]
        rw [bvd]; intro e; rw [a1_1] at e; exact absurd e (by decide)
      · unfold okX12_mend
        simp only [bvd, e4_0, a2_1, u2_at, if_false, if_true, reduceIte]
        first | exact ⟨fun h => absurd h (by decide), fun _ => trivial⟩ | exact fun h => absurd h (by decide) | exact ⟨⟨fun _ => trivial, fun _ => ib_ok _ _ _⟩, fun h => absurd h (by decide), fun _ => trivial⟩ | exact ⟨fun h => absurd h (by decide), fun _ => ⟨fun h => absurd h (by decide), fun _ => trivial⟩⟩ | exact ⟨fun _ => ⟨fun h => absurd h (by decide), fun _ => trivial⟩, fun h => absurd rfl h⟩ | exact ⟨fun _ => ⟨fun h => absurd h (by decide), fun _ => trivial⟩, fun h => absurd trivial h⟩ | skip
      · unfold gX11_mend
        rw [e2_0, om_s, bvd, a1_1, if_neg (by decide)]
      · unfold gX12_mend
        simp only [bvd, e4_0, a2_1, u2_at, if_false, if_true, reduceIte]
        first | rfl | skip
  · refine ⟨?_, ?_, Or.inr ⟨1, 0, 0, 1, by decide, ?_, ?_, rfl⟩⟩
    · unfold okX11_mend
      refine ⟨pa_ok2 _, ?_⟩
      rw [e2_0, om_n]; trivial
    · unfold okX12_mend
      simp only [bvd, e4_0, u2_at, if_false, if_true, reduceIte]
      first | exact ⟨fun h => absurd h (by decide), fun _ => trivial⟩ | exact fun h => absurd h (by decide) | exact ⟨⟨fun _ => trivial, fun _ => ib_ok _ _ _⟩, fun h => absurd h (by decide), fun _ => trivial⟩ | exact ⟨fun h => absurd h (by decide), fun _ => ⟨fun h => absurd h (by decide), fun _ => trivial⟩⟩ | exact ⟨fun _ => ⟨fun h => absurd h (by decide), fun _ => trivial⟩, fun h => absurd rfl h⟩ | exact ⟨fun _ => ⟨fun h => absurd h (by decide), fun _ => trivial⟩, fun h => absurd trivial h⟩ | skip
    · unfold gX11_mend
      rw [e2_0, om_n]
    · unfold gX12_mend
      simp only [bvd, e4_0, u2_at, if_false, if_true, reduceIte]
      first | rfl | skip
