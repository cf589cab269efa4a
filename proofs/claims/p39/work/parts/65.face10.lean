-- pumps and dykes
theorem RR_pumpn {b : Int} {c : Nat} {F FM : jF} {G GM : jG} (h : RR b c F G FM GM) (hc8 : cn F 23 < 8) {p1 p2 p3 p4 p5 : Int32} (hw : wy F p1 p2) (a1 : 1 ≤ p3.toInt) (a2 : p3.toInt ≤ 9999) (b1 : 0 ≤ p4.toInt) (b2 : p4.toInt ≤ 999) (c1 : 1 ≤ p5.toInt) (c2 : p5.toInt ≤ 999) {F1 : jF} (hF1 : F1 = u2 (u2 (u2 (u2 (u2 (u2 F 24 (cn F 23) p1) 25 (cn F 23) p2) 26 (cn F 23) p3) 27 (cn F 23) p4) 28 (cn F 23) p5) 23 0 (nI ((cn F 23) + 1))) : RR b c F1 G (u2 (u2 (u2 (u2 (u2 (u2 FM 24 (cn F 23) p1) 25 (cn F 23) p2) 26 (cn F 23) p3) 27 (cn F 23) p4) 28 (cn F 23) p5) 23 0 (nI ((cn F 23) + 1))) GM ∧ F1 0 = F 0 := by
  obtain ⟨⟨⟨x1, x2, x3, x4, x5, x6⟩, ⟨g1, g2, g3⟩, ⟨g4, g5, g6⟩, g7, g8⟩, ⟨h3, h4⟩, h5⟩ := h
  obtain ⟨n, hnd⟩ : ∃ n, n = cn F 23 := ⟨_, rfl⟩
  rw [← hnd]
  rw [← hnd] at hF1
  have ao : ∀ {ks : List Nat}, 23 ∉ ks → 24 ∉ ks → 25 ∉ ks → 26 ∉ ks → 27 ∉ ks → 28 ∉ ks → ag ks F F1 := fun q0 q1 q2 q3 q4 q5 => by rw [hF1]; exact ag_tr (ag_tr (ag_tr (ag_tr (ag_tr (ag_off F q1 n _) (ag_off _ q2 n _)) (ag_off _ q3 n _)) (ag_off _ q4 n _)) (ag_off _ q5 n _)) (ag_off _ q0 0 _)
  have am : ∀ {ks : List Nat}, 23 ∉ ks → 24 ∉ ks → 25 ∉ ks → 26 ∉ ks → 27 ∉ ks → 28 ∉ ks → ag ks FM (u2 (u2 (u2 (u2 (u2 (u2 FM 24 n p1) 25 n p2) 26 n p3) 27 n p4) 28 n p5) 23 0 (nI (n + 1))) := fun q0 q1 q2 q3 q4 q5 => ag_tr (ag_tr (ag_tr (ag_tr (ag_tr (ag_off FM q1 n _) (ag_off _ q2 n _)) (ag_off _ q3 n _)) (ag_off _ q4 n _)) (ag_off _ q5 n _)) (ag_off _ q0 0 _)
  have a0 : ag [0, 1, 8, 16, 17, 29, 30, 31, 32, 40, 44] F F1 := ao (by decide) (by decide) (by decide) (by decide) (by decide) (by decide)
  have ec : F1 23 0 = nI (n + 1) := by rw [hF1, u2_at]
  have cc : cn F1 23 = n + 1 := by unfold cn; rw [ec, nI_clamp (by omega)]
  have n1 : wN F1 := by
    obtain ⟨⟨y1, y2, y3, y4⟩, y5, y6, y7, y8⟩ := x1
    unfold wN
    rw [cc, cn_of (a0.at 8 (by decide)), cn_of (a0.at 17 (by decide)), cn_of (a0.at 32 (by decide)), cn_of (a0.at 40 (by decide)), cn_of (a0.at 44 (by decide)), cn_of (a0.at 1 (by decide)), cn_of (a0.at 0 (by decide)), a0.at 8 (by decide), a0.at 17 (by decide), a0.at 32 (by decide), a0.at 40 (by decide), a0.at 44 (by decide), a0.at 1 (by decide), a0.at 0 (by decide), ec]
    exact ⟨⟨y1, y2, ⟨rfl, by omega⟩, y4⟩, y5, y6, y7, y8⟩
  refine ⟨⟨⟨⟨n1, wB_c (ao (by decide) (by decide) (by decide) (by decide) (by decide) (by decide)) rfl (fun _ _ => rfl) x2, wL_c (ao (by decide) (by decide) (by decide) (by decide) (by decide) (by decide)) x3, wS_c (ao (by decide) (by decide) (by decide) (by decide) (by decide) (by decide)) x4, wO_c (ao (by decide) (by decide) (by decide) (by decide) (by decide) (by decide)) x5, wZ_c x1 n1 (ao (by decide) (by decide) (by decide) (by decide) (by decide) (by decide)) (ag_rf _ G) x6⟩, ⟨wG_c (ao (by decide) (by decide) (by decide) (by decide) (by decide) (by decide)) g1, fun i => ?_, wD_c (ao (by decide) (by decide) (by decide) (by decide) (by decide) (by decide)) rfl g3⟩, ⟨wR_c (ao (by decide) (by decide) (by decide) (by decide) (by decide) (by decide)) g4, wC_c (ao (by decide) (by decide) (by decide) (by decide) (by decide) (by decide)) g5, wWk_c (ao (by decide) (by decide) (by decide) (by decide) (by decide) (by decide)) g6⟩, wM_c (ao (by decide) (by decide) (by decide) (by decide) (by decide) (by decide)) g7, wT_c (a0.at 16 (by decide)) g8⟩, ⟨by rw [hF1]; exact ag_u2 (ag_u2 (ag_u2 (ag_u2 (ag_u2 (ag_u2 h3 24 n rfl) 25 n rfl) 26 n rfl) 27 n rfl) 28 n rfl) 23 0 rfl, h4⟩, rX_c (ao (by decide) (by decide) (by decide) (by decide) (by decide) (by decide)) (am (by decide) (by decide) (by decide) (by decide) (by decide) (by decide)) rfl rfl h5⟩, a0.at 0 (by decide)⟩
  obtain ⟨w1, w2, w3, w4, w5⟩ := g2 i
  have e24 : F1 24 i = if i = n then p1 else F 24 i := by rw [hF1, u2_other _ (by decide : 24 ≠ 23), u2_other _ (by decide : 24 ≠ 28), u2_other _ (by decide : 24 ≠ 27), u2_other _ (by decide : 24 ≠ 26), u2_other _ (by decide : 24 ≠ 25), u2_same]
  have e25 : F1 25 i = if i = n then p2 else F 25 i := by rw [hF1, u2_other _ (by decide : 25 ≠ 23), u2_other _ (by decide : 25 ≠ 28), u2_other _ (by decide : 25 ≠ 27), u2_other _ (by decide : 25 ≠ 26), u2_same, u2_other _ (by decide : 25 ≠ 24)]
  have e26 : F1 26 i = if i = n then p3 else F 26 i := by rw [hF1, u2_other _ (by decide : 26 ≠ 23), u2_other _ (by decide : 26 ≠ 28), u2_other _ (by decide : 26 ≠ 27), u2_same, u2_other _ (by decide : 26 ≠ 25), u2_other _ (by decide : 26 ≠ 24)]
  have e27 : F1 27 i = if i = n then p4 else F 27 i := by rw [hF1, u2_other _ (by decide : 27 ≠ 23), u2_other _ (by decide : 27 ≠ 28), u2_same, u2_other _ (by decide : 27 ≠ 26), u2_other _ (by decide : 27 ≠ 25), u2_other _ (by decide : 27 ≠ 24)]
  have e28 : F1 28 i = if i = n then p5 else F 28 i := by rw [hF1, u2_other _ (by decide : 28 ≠ 23), u2_same, u2_other _ (by decide : 28 ≠ 27), u2_other _ (by decide : 28 ≠ 26), u2_other _ (by decide : 28 ≠ 25), u2_other _ (by decide : 28 ≠ 24)]
  rw [cc, e24, e25, e26, e27, e28, a0.at 29 (by decide), a0.at 30 (by decide), a0.at 31 (by decide)]
  refine ⟨fun hi => ?_, w2, w3, w4, fun hi => w5 (by omega)⟩
  by_cases e : i = n
  · rw [if_pos e, if_pos e, if_pos e, if_pos e, if_pos e]
    exact ⟨wy_c (a0.at 8 (by decide)) hw, ⟨a1, a2⟩, ⟨b1, b2⟩, ⟨c1, c2⟩⟩
  · rw [if_neg e, if_neg e, if_neg e, if_neg e, if_neg e]
    obtain ⟨v1, v2⟩ := w1 (by omega)
    exact ⟨wy_c (a0.at 8 (by decide)) v1, v2⟩
theorem RR_dyken {b : Int} {c : Nat} {F FM : jF} {G GM : jG} (h : RR b c F G FM GM) (hc8 : cn F 32 < 8) {p1 p2 p3 p4 p5 : Int32} (hw : wy F p1 p2) (b1 : 1 ≤ p4.toInt) (b2 : p4.toInt ≤ 999) (c1 : 0 ≤ p5.toInt) (c2 : p5.toInt ≤ 99) {F1 : jF} (hF1 : F1 = u2 (u2 (u2 (u2 (u2 (u2 F 33 (cn F 32) p1) 34 (cn F 32) p2) 35 (cn F 32) p3) 36 (cn F 32) p4) 37 (cn F 32) p5) 32 0 (nI ((cn F 32) + 1))) : RR b c F1 G (u2 (u2 (u2 (u2 (u2 (u2 FM 33 (cn F 32) p1) 34 (cn F 32) p2) 35 (cn F 32) p3) 36 (cn F 32) p4) 37 (cn F 32) p5) 32 0 (nI ((cn F 32) + 1))) GM ∧ F1 0 = F 0 := by
  obtain ⟨⟨⟨x1, x2, x3, x4, x5, x6⟩, ⟨g1, g2, g3⟩, ⟨g4, g5, g6⟩, g7, g8⟩, ⟨h3, h4⟩, h5⟩ := h
  obtain ⟨n, hnd⟩ : ∃ n, n = cn F 32 := ⟨_, rfl⟩
  rw [← hnd]
  rw [← hnd] at hF1
  have ao : ∀ {ks : List Nat}, 32 ∉ ks → 33 ∉ ks → 34 ∉ ks → 35 ∉ ks → 36 ∉ ks → 37 ∉ ks → ag ks F F1 := fun q0 q1 q2 q3 q4 q5 => by rw [hF1]; exact ag_tr (ag_tr (ag_tr (ag_tr (ag_tr (ag_off F q1 n _) (ag_off _ q2 n _)) (ag_off _ q3 n _)) (ag_off _ q4 n _)) (ag_off _ q5 n _)) (ag_off _ q0 0 _)
  have am : ∀ {ks : List Nat}, 32 ∉ ks → 33 ∉ ks → 34 ∉ ks → 35 ∉ ks → 36 ∉ ks → 37 ∉ ks → ag ks FM (u2 (u2 (u2 (u2 (u2 (u2 FM 33 n p1) 34 n p2) 35 n p3) 36 n p4) 37 n p5) 32 0 (nI (n + 1))) := fun q0 q1 q2 q3 q4 q5 => ag_tr (ag_tr (ag_tr (ag_tr (ag_tr (ag_off FM q1 n _) (ag_off _ q2 n _)) (ag_off _ q3 n _)) (ag_off _ q4 n _)) (ag_off _ q5 n _)) (ag_off _ q0 0 _)
  have a0 : ag [0, 1, 8, 16, 17, 23, 39, 40, 44, 49, 50, 64, 65, 66, 67] F F1 := ao (by decide) (by decide) (by decide) (by decide) (by decide) (by decide)
  have ec : F1 32 0 = nI (n + 1) := by rw [hF1, u2_at]
  have cc : cn F1 32 = n + 1 := by unfold cn; rw [ec, nI_clamp (by omega)]
  have n1 : wN F1 := by
    obtain ⟨⟨y1, y2, y3, y4⟩, y5, y6, y7, y8⟩ := x1
    unfold wN
    rw [cc, cn_of (a0.at 8 (by decide)), cn_of (a0.at 17 (by decide)), cn_of (a0.at 23 (by decide)), cn_of (a0.at 40 (by decide)), cn_of (a0.at 44 (by decide)), cn_of (a0.at 1 (by decide)), cn_of (a0.at 0 (by decide)), a0.at 8 (by decide), a0.at 17 (by decide), a0.at 23 (by decide), a0.at 40 (by decide), a0.at 44 (by decide), a0.at 1 (by decide), a0.at 0 (by decide), ec]
    exact ⟨⟨y1, y2, y3, ⟨rfl, by omega⟩⟩, y5, y6, y7, y8⟩
  refine ⟨⟨⟨⟨n1, wB_c (ao (by decide) (by decide) (by decide) (by decide) (by decide) (by decide)) rfl (fun _ _ => rfl) x2, wL_c (ao (by decide) (by decide) (by decide) (by decide) (by decide) (by decide)) x3, wS_c (ao (by decide) (by decide) (by decide) (by decide) (by decide) (by decide)) x4, wO_c (ao (by decide) (by decide) (by decide) (by decide) (by decide) (by decide)) x5, wZ_c x1 n1 (ao (by decide) (by decide) (by decide) (by decide) (by decide) (by decide)) (ag_rf _ G) x6⟩, ⟨wG_c (ao (by decide) (by decide) (by decide) (by decide) (by decide) (by decide)) g1, wP_c (ao (by decide) (by decide) (by decide) (by decide) (by decide) (by decide)) g2, fun i => ?_⟩, ⟨wR_c (ao (by decide) (by decide) (by decide) (by decide) (by decide) (by decide)) g4, fun i hi => ?_, fun i => ?_⟩, wM_c (ao (by decide) (by decide) (by decide) (by decide) (by decide) (by decide)) g7, wT_c (a0.at 16 (by decide)) g8⟩, ⟨by rw [hF1]; exact ag_u2 (ag_u2 (ag_u2 (ag_u2 (ag_u2 (ag_u2 h3 33 n rfl) 34 n rfl) 35 n rfl) 36 n rfl) 37 n rfl) 32 0 rfl, h4⟩, rX_c (ao (by decide) (by decide) (by decide) (by decide) (by decide) (by decide)) (am (by decide) (by decide) (by decide) (by decide) (by decide) (by decide)) rfl rfl h5⟩, a0.at 0 (by decide)⟩
  · obtain ⟨w1, w2, w3, w4, w5⟩ := g3 i
    have e33 : F1 33 i = if i = n then p1 else F 33 i := by rw [hF1, u2_other _ (by decide : 33 ≠ 32), u2_other _ (by decide : 33 ≠ 37), u2_other _ (by decide : 33 ≠ 36), u2_other _ (by decide : 33 ≠ 35), u2_other _ (by decide : 33 ≠ 34), u2_same]
    have e34 : F1 34 i = if i = n then p2 else F 34 i := by rw [hF1, u2_other _ (by decide : 34 ≠ 32), u2_other _ (by decide : 34 ≠ 37), u2_other _ (by decide : 34 ≠ 36), u2_other _ (by decide : 34 ≠ 35), u2_same, u2_other _ (by decide : 34 ≠ 33)]
    have e35 : F1 35 i = if i = n then p3 else F 35 i := by rw [hF1, u2_other _ (by decide : 35 ≠ 32), u2_other _ (by decide : 35 ≠ 37), u2_other _ (by decide : 35 ≠ 36), u2_same, u2_other _ (by decide : 35 ≠ 34), u2_other _ (by decide : 35 ≠ 33)]
    have e36 : F1 36 i = if i = n then p4 else F 36 i := by rw [hF1, u2_other _ (by decide : 36 ≠ 32), u2_other _ (by decide : 36 ≠ 37), u2_same, u2_other _ (by decide : 36 ≠ 35), u2_other _ (by decide : 36 ≠ 34), u2_other _ (by decide : 36 ≠ 33)]
    have e37 : F1 37 i = if i = n then p5 else F 37 i := by rw [hF1, u2_other _ (by decide : 37 ≠ 32), u2_same, u2_other _ (by decide : 37 ≠ 36), u2_other _ (by decide : 37 ≠ 35), u2_other _ (by decide : 37 ≠ 34), u2_other _ (by decide : 37 ≠ 33)]
    rw [cc, e33, e34, e36, e37, a0.at 39 (by decide)]
    refine ⟨fun hi => ?_, w2, w3, w4, fun hi => w5 (by omega)⟩
    by_cases e : i = n
    · rw [if_pos e, if_pos e, if_pos e, if_pos e]
      exact ⟨wy_c (a0.at 8 (by decide)) hw, ⟨b1, b2⟩, ⟨c1, c2⟩⟩
    · rw [if_neg e, if_neg e, if_neg e, if_neg e]
      obtain ⟨v1, v2⟩ := w1 (by omega)
      exact ⟨wy_c (a0.at 8 (by decide)) v1, v2⟩
  · obtain ⟨w1, w2, w3⟩ := g5 i hi
    rw [a0.at 49 (by decide), a0.at 50 (by decide), a0.at 64 (by decide), cc]
    exact ⟨w1, w2, w3.imp id (fun ⟨k, hk, e⟩ => ⟨k, by omega, e⟩)⟩
  · obtain ⟨w1, w2⟩ := g6 i
    rw [a0.at 65 (by decide), a0.at 66 (by decide), a0.at 67 (by decide), cc]
    exact ⟨w1.imp id (fun ⟨k, hk, e⟩ => ⟨k, by omega, e⟩), w2⟩
theorem fm_addPump {n : Nat} {F F2 : jF} {G G2 : jG} {M FM : jF} {GM : jG} (h : Iv n F G F2 G2 M FM GM) (hn : n < 512) (p1 p2 p3 p4 p5 : Int32) : okX11_addPump F G M p1 p2 p3 p4 p5 ∧ okX12_addPump FM GM p1 p2 p3 p4 p5 ∧ rM n F G F2 G2 M FM GM (fun x : Int32 => x.toInt64) (fun x : Int32 => x.toInt64) (wk 1 2 3) [1, 2, 3] (gX11_addPump F G M p1 p2 p3 p4 p5) (gX12_addPump FM GM p1 p2 p3 p4 p5) := by
  have hr0 := Iv_rr h hn 0
  have hrb := (Iv_b h).1
  have hN := hrb.1.1.1
  have hR := hrb.2.1.1
  have hG := hrb.2.1.2
  rcases way_c G GM hN hR p1 p2 with ⟨a3_0, a1_0, a2_0⟩ | ⟨a1_0, a2_0⟩ | ⟨a1_0, a2_0⟩
  · skip
    rcases nr_c p3 1 9999 with ⟨a1_1, a2_1, a3_1, a4_1⟩ | ⟨a1_1, a2_1⟩
    · skip
      rcases nr_c p4 0 999 with ⟨a1_2, a2_2, a3_2, a4_2⟩ | ⟨a1_2, a2_2⟩
      · skip
        rcases nr_c p5 1 999 with ⟨a1_3, a2_3, a3_3, a4_3⟩ | ⟨a1_3, a2_3⟩
        · skip
          have e23 : FM 23 0 = nI (cn F 23) := by rw [hR.at 23 (by decide)]; exact (hN.1.2.2.1).1
          rcases rm_c (F := F) (k := 23) (lim := 8) (l := 8) rfl (by omega) hN.1.2.2.1 with ⟨a1_4, a2_4, a3_4⟩ | ⟨a1_4, a2_4⟩
          · skip
            obtain ⟨F1, hF1⟩ : ∃ F1, F1 = u2 (u2 (u2 (u2 (u2 (u2 F 24 (cn F 23) p1) 25 (cn F 23) p2) 26 (cn F 23) p3) 27 (cn F 23) p4) 28 (cn F 23) p5) 23 0 (nI ((cn F 23) + 1)) := ⟨_, rfl⟩
            obtain ⟨hrr, h00⟩ := RR_pumpn hr0 a3_4 a3_0 a3_1 a4_1 a3_2 a4_2 a3_3 a4_3 hF1
            have h0 := cn_of h00
            have hz := (hrb.1.2.1.2.1 (cn F 23)).2.2.2.2 (Nat.le_refl _)
            have i29 : u2 (u2 (u2 (u2 (u2 (u2 F 24 (cn F 23) p1) 25 (cn F 23) p2) 26 (cn F 23) p3) 27 (cn F 23) p4) 28 (cn F 23) p5) 29 (cn F 23) 0 = (u2 (u2 (u2 (u2 (u2 F 24 (cn F 23) p1) 25 (cn F 23) p2) 26 (cn F 23) p3) 27 (cn F 23) p4) 28 (cn F 23) p5) := by
              have := u2_id (u2 (u2 (u2 (u2 (u2 F 24 (cn F 23) p1) 25 (cn F 23) p2) 26 (cn F 23) p3) 27 (cn F 23) p4) 28 (cn F 23) p5) 29 (cn F 23)
              rwa [u2_other _ (by decide : 29 ≠ 28), u2_other _ (by decide : 29 ≠ 27), u2_other _ (by decide : 29 ≠ 26), u2_other _ (by decide : 29 ≠ 25), u2_other _ (by decide : 29 ≠ 24), hz.1] at this
            have i30 : u2 (u2 (u2 (u2 (u2 (u2 F 24 (cn F 23) p1) 25 (cn F 23) p2) 26 (cn F 23) p3) 27 (cn F 23) p4) 28 (cn F 23) p5) 30 (cn F 23) 0 = (u2 (u2 (u2 (u2 (u2 F 24 (cn F 23) p1) 25 (cn F 23) p2) 26 (cn F 23) p3) 27 (cn F 23) p4) 28 (cn F 23) p5) := by
              have := u2_id (u2 (u2 (u2 (u2 (u2 F 24 (cn F 23) p1) 25 (cn F 23) p2) 26 (cn F 23) p3) 27 (cn F 23) p4) 28 (cn F 23) p5) 30 (cn F 23)
              rwa [u2_other _ (by decide : 30 ≠ 28), u2_other _ (by decide : 30 ≠ 27), u2_other _ (by decide : 30 ≠ 26), u2_other _ (by decide : 30 ≠ 25), u2_other _ (by decide : 30 ≠ 24), hz.2.1] at this
            have i31 : u2 (u2 (u2 (u2 (u2 (u2 F 24 (cn F 23) p1) 25 (cn F 23) p2) 26 (cn F 23) p3) 27 (cn F 23) p4) 28 (cn F 23) p5) 31 (cn F 23) 0 = (u2 (u2 (u2 (u2 (u2 F 24 (cn F 23) p1) 25 (cn F 23) p2) 26 (cn F 23) p3) 27 (cn F 23) p4) 28 (cn F 23) p5) := by
              have := u2_id (u2 (u2 (u2 (u2 (u2 F 24 (cn F 23) p1) 25 (cn F 23) p2) 26 (cn F 23) p3) 27 (cn F 23) p4) 28 (cn F 23) p5) 31 (cn F 23)
              rwa [u2_other _ (by decide : 31 ≠ 28), u2_other _ (by decide : 31 ≠ 27), u2_other _ (by decide : 31 ≠ 26), u2_other _ (by decide : 31 ≠ 25), u2_other _ (by decide : 31 ≠ 24), hz.2.2] at this
            have hs : gX5_newPump F G p1 p2 p3 p4 p5 = (F 23 0, (F1, G)) := by unfold gX5_newPump; rw [i29, i30, i31, hF1, hN.1.2.2.1.1, nI_1]
            obtain ⟨M1, m1, m2, m3, m4⟩ := Iv_act (F1 := F1) (G1 := G) h hn 5 p1 p2 p3 p4 p5 (ov_5 ⟨lK_of hN hrb.1.2.2.1.2.2, hN.1.2.2.1.1, a3_4⟩) (by rw [ac_5, hs]) (by rw [h0]; exact hrr)
            have hv : vp_in (nI (cn F 23)) 8 := nI_vin a3_4 (by omega)
            refine ⟨?_, ?_, Or.inl ⟨(F 23 0), _, _, M1, (F 23 0), _, _, ?_, ?_, ?_, ?_, m4⟩⟩
            · unfold okX11_addPump
              refine ⟨nw_ok _ _, ?_⟩
              rw [bvd]; intro _
              rw [bvd]; intro _
              rw [bvd]; intro _
              rw [bvd]; intro _
              rw [bvd]; intro _
              refine ⟨(m1 _).2, ?_⟩
              rw [(m1 _).1, brd]; exact m3
            · unfold okX12_addPump
              refine ⟨are_ok _ _ _ _, ?_⟩
              simp only [bvd, brd, a2_0, a2_1, a2_2, a2_3, e23, a2_4, u2_at, u2_u2, u2_other _ (show 23 ≠ 60 by decide), u2_other _ (show 23 ≠ 24 by decide), u2_other _ (show 23 ≠ 25 by decide), u2_other _ (show 23 ≠ 26 by decide), u2_other _ (show 23 ≠ 27 by decide), u2_other _ (show 23 ≠ 28 by decide), if_false, if_true, reduceIte]
              first | exact ⟨fun h => absurd h (by decide), fun _ => ⟨fun _ => ⟨hv, hv, hv, hv, hv⟩, fun _ => trivial⟩⟩ | skip
            · unfold gX11_addPump
              rw [bvd, a1_0, if_pos rfl, bvd, a1_1, if_pos rfl, bvd, a1_2, if_pos rfl, bvd, a1_3, if_pos rfl, bvd, a1_4, if_pos rfl, (m1 _).1, brd, brd]
              show (0, (Int64.toInt32 (gX5_act F G (M1 82) (nI (6 * (M 80 0).toNatClampNeg))).1, ((gX5_act F G (M1 82) (nI (6 * (M 80 0).toNatClampNeg))).2, M1))) = _
              rw [m2, ac_5, hs, ti32]
            · unfold gX12_addPump
              simp only [bvd, brd, a2_0, a2_1, a2_2, a2_3, e23, a2_4, u2_other _ (show 23 ≠ 60 by decide), u2_at, u2_u2, u2_other _ (show 23 ≠ 24 by decide), u2_other _ (show 23 ≠ 25 by decide), u2_other _ (show 23 ≠ 26 by decide), u2_other _ (show 23 ≠ 27 by decide), u2_other _ (show 23 ≠ 28 by decide), if_false, if_true, reduceIte, nI_clamp (show cn F 23 < 2 ^ 31 by omega), nI_1, nI_pred]
              rw [hN.1.2.2.1.1]
              rfl
            · simp only [u2_other _ (show 60 ≠ 23 by decide), u2_other _ (show 60 ≠ 24 by decide), u2_other _ (show 60 ≠ 25 by decide), u2_other _ (show 60 ≠ 26 by decide), u2_other _ (show 60 ≠ 27 by decide), u2_other _ (show 60 ≠ 28 by decide), u2_at]
            · rfl
          · refine ⟨?_, ?_, Or.inr ⟨3, 0, 0, 3, by decide, ?_, ?_, rfl⟩⟩
            · unfold okX11_addPump
              refine ⟨nw_ok _ _, ?_⟩
              rw [bvd]; intro _
              rw [bvd]; intro _
              rw [bvd]; intro _
              rw [bvd]; intro _
              rw [bvd]; intro e; rw [a1_4] at e; exact absurd e (by decide)
            · unfold okX12_addPump
              refine ⟨are_ok _ _ _ _, ?_⟩
              simp only [bvd, a2_0, a2_1, a2_2, a2_3, e23, a2_4, u2_other _ (show 23 ≠ 60 by decide), brd, u2_u2, u2_at, if_false, if_true, reduceIte]
              first | exact ⟨fun h => absurd h (by decide), fun _ => trivial⟩ | exact fun h => absurd h (by decide) | exact ⟨⟨fun _ => trivial, fun _ => ib_ok _ _ _⟩, fun h => absurd h (by decide), fun _ => trivial⟩ | exact ⟨fun h => absurd h (by decide), fun _ => ⟨fun h => absurd h (by decide), fun _ => trivial⟩⟩ | exact ⟨fun _ => ⟨fun h => absurd h (by decide), fun _ => trivial⟩, fun h => absurd rfl h⟩ | exact ⟨fun _ => ⟨fun h => absurd h (by decide), fun _ => trivial⟩, fun h => absurd trivial h⟩ | skip
            · unfold gX11_addPump
              rw [bvd, a1_0, if_pos rfl, bvd, a1_1, if_pos rfl, bvd, a1_2, if_pos rfl, bvd, a1_3, if_pos rfl, bvd, a1_4, if_neg (by decide)]
            · unfold gX12_addPump
              simp only [bvd, a2_0, a2_1, a2_2, a2_3, e23, a2_4, u2_other _ (show 23 ≠ 60 by decide), brd, u2_u2, u2_at, if_false, if_true, reduceIte]
              first | rfl | skip
        · refine ⟨?_, ?_, Or.inr ⟨2, 0, 0, 2, by decide, ?_, ?_, rfl⟩⟩
          · unfold okX11_addPump
            refine ⟨nw_ok _ _, ?_⟩
            rw [bvd]; intro _
            rw [bvd]; intro _
            rw [bvd]; intro _
            rw [bvd]; intro e; rw [a1_3] at e; exact absurd e (by decide)
          · unfold okX12_addPump
            refine ⟨are_ok _ _ _ _, ?_⟩
            simp only [bvd, a2_0, a2_1, a2_2, a2_3, brd, u2_u2, u2_at, if_false, if_true, reduceIte]
            first | exact ⟨fun h => absurd h (by decide), fun _ => trivial⟩ | exact fun h => absurd h (by decide) | exact ⟨⟨fun _ => trivial, fun _ => ib_ok _ _ _⟩, fun h => absurd h (by decide), fun _ => trivial⟩ | exact ⟨fun h => absurd h (by decide), fun _ => ⟨fun h => absurd h (by decide), fun _ => trivial⟩⟩ | exact ⟨fun _ => ⟨fun h => absurd h (by decide), fun _ => trivial⟩, fun h => absurd rfl h⟩ | exact ⟨fun _ => ⟨fun h => absurd h (by decide), fun _ => trivial⟩, fun h => absurd trivial h⟩ | skip
          · unfold gX11_addPump
            rw [bvd, a1_0, if_pos rfl, bvd, a1_1, if_pos rfl, bvd, a1_2, if_pos rfl, bvd, a1_3, if_neg (by decide)]
          · unfold gX12_addPump
            simp only [bvd, a2_0, a2_1, a2_2, a2_3, brd, u2_u2, u2_at, if_false, if_true, reduceIte]
            first | rfl | skip
      · refine ⟨?_, ?_, Or.inr ⟨2, 0, 0, 2, by decide, ?_, ?_, rfl⟩⟩
        · unfold okX11_addPump
          refine ⟨nw_ok _ _, ?_⟩
          rw [bvd]; intro _
          rw [bvd]; intro _
          rw [bvd]; intro e; rw [a1_2] at e; exact absurd e (by decide)
        · unfold okX12_addPump
          refine ⟨are_ok _ _ _ _, ?_⟩
          simp only [bvd, a2_0, a2_1, a2_2, brd, u2_u2, u2_at, if_false, if_true, reduceIte]
          first | exact ⟨fun h => absurd h (by decide), fun _ => trivial⟩ | exact fun h => absurd h (by decide) | exact ⟨⟨fun _ => trivial, fun _ => ib_ok _ _ _⟩, fun h => absurd h (by decide), fun _ => trivial⟩ | exact ⟨fun h => absurd h (by decide), fun _ => ⟨fun h => absurd h (by decide), fun _ => trivial⟩⟩ | exact ⟨fun _ => ⟨fun h => absurd h (by decide), fun _ => trivial⟩, fun h => absurd rfl h⟩ | exact ⟨fun _ => ⟨fun h => absurd h (by decide), fun _ => trivial⟩, fun h => absurd trivial h⟩ | skip
        · unfold gX11_addPump
          rw [bvd, a1_0, if_pos rfl, bvd, a1_1, if_pos rfl, bvd, a1_2, if_neg (by decide)]
        · unfold gX12_addPump
          simp only [bvd, a2_0, a2_1, a2_2, brd, u2_u2, u2_at, if_false, if_true, reduceIte]
          first | rfl | skip
    · refine ⟨?_, ?_, Or.inr ⟨2, 0, 0, 2, by decide, ?_, ?_, rfl⟩⟩
      · unfold okX11_addPump
        refine ⟨nw_ok _ _, ?_⟩
        rw [bvd]; intro _
        rw [bvd]; intro e; rw [a1_1] at e; exact absurd e (by decide)
      · unfold okX12_addPump
        refine ⟨are_ok _ _ _ _, ?_⟩
        simp only [bvd, a2_0, a2_1, brd, u2_u2, u2_at, if_false, if_true, reduceIte]
        first | exact ⟨fun h => absurd h (by decide), fun _ => trivial⟩ | exact fun h => absurd h (by decide) | exact ⟨⟨fun _ => trivial, fun _ => ib_ok _ _ _⟩, fun h => absurd h (by decide), fun _ => trivial⟩ | exact ⟨fun h => absurd h (by decide), fun _ => ⟨fun h => absurd h (by decide), fun _ => trivial⟩⟩ | exact ⟨fun _ => ⟨fun h => absurd h (by decide), fun _ => trivial⟩, fun h => absurd rfl h⟩ | exact ⟨fun _ => ⟨fun h => absurd h (by decide), fun _ => trivial⟩, fun h => absurd trivial h⟩ | skip
      · unfold gX11_addPump
        rw [bvd, a1_0, if_pos rfl, bvd, a1_1, if_neg (by decide)]
      · unfold gX12_addPump
        simp only [bvd, a2_0, a2_1, brd, u2_u2, u2_at, if_false, if_true, reduceIte]
        first | rfl | skip
  · refine ⟨?_, ?_, Or.inr ⟨1, 0, 0, 1, by decide, ?_, ?_, rfl⟩⟩
    · unfold okX11_addPump
      refine ⟨nw_ok _ _, ?_⟩
      rw [bvd]; intro e; rw [a1_0] at e; exact absurd e (by decide)
    · unfold okX12_addPump
      refine ⟨are_ok _ _ _ _, ?_⟩
      simp only [bvd, a2_0, brd, u2_u2, u2_at, if_false, if_true, reduceIte]
      first | exact ⟨fun h => absurd h (by decide), fun _ => trivial⟩ | exact fun h => absurd h (by decide) | exact ⟨⟨fun _ => trivial, fun _ => ib_ok _ _ _⟩, fun h => absurd h (by decide), fun _ => trivial⟩ | exact ⟨fun h => absurd h (by decide), fun _ => ⟨fun h => absurd h (by decide), fun _ => trivial⟩⟩ | exact ⟨fun _ => ⟨fun h => absurd h (by decide), fun _ => trivial⟩, fun h => absurd rfl h⟩ | exact ⟨fun _ => ⟨fun h => absurd h (by decide), fun _ => trivial⟩, fun h => absurd trivial h⟩ | skip
    · unfold gX11_addPump
      rw [bvd, a1_0, if_neg (by decide)]
    · unfold gX12_addPump
      simp only [bvd, a2_0, brd, u2_u2, u2_at, if_false, if_true, reduceIte]
      first | rfl | skip
  · refine ⟨?_, ?_, Or.inr ⟨2, 0, 0, 2, by decide, ?_, ?_, rfl⟩⟩
    · unfold okX11_addPump
      refine ⟨nw_ok _ _, ?_⟩
      rw [bvd]; intro e; rw [a1_0] at e; exact absurd e (by decide)
    · unfold okX12_addPump
      refine ⟨are_ok _ _ _ _, ?_⟩
      simp only [bvd, a2_0, brd, u2_u2, u2_at, if_false, if_true, reduceIte]
      first | exact ⟨fun h => absurd h (by decide), fun _ => trivial⟩ | exact fun h => absurd h (by decide) | exact ⟨⟨fun _ => trivial, fun _ => ib_ok _ _ _⟩, fun h => absurd h (by decide), fun _ => trivial⟩ | exact ⟨fun h => absurd h (by decide), fun _ => ⟨fun h => absurd h (by decide), fun _ => trivial⟩⟩ | exact ⟨fun _ => ⟨fun h => absurd h (by decide), fun _ => trivial⟩, fun h => absurd rfl h⟩ | exact ⟨fun _ => ⟨fun h => absurd h (by decide), fun _ => trivial⟩, fun h => absurd trivial h⟩ | skip
    · unfold gX11_addPump
      rw [bvd, a1_0, if_neg (by decide)]
    · unfold gX12_addPump
      simp only [bvd, a2_0, brd, u2_u2, u2_at, if_false, if_true, reduceIte]
      first | rfl | skip
theorem fm_addDyke {n : Nat} {F F2 : jF} {G G2 : jG} {M FM : jF} {GM : jG} (h : Iv n F G F2 G2 M FM GM) (hn : n < 512) (p1 p2 p3 p4 p5 : Int32) : okX11_addDyke F G M p1 p2 p3 p4 p5 ∧ okX12_addDyke FM GM p1 p2 p3 p4 p5 ∧ rM n F G F2 G2 M FM GM (fun x : Int32 => x.toInt64) (fun x : Int32 => x.toInt64) (wk 1 2 3) [1, 2, 3] (gX11_addDyke F G M p1 p2 p3 p4 p5) (gX12_addDyke FM GM p1 p2 p3 p4 p5) := by
  have hr0 := Iv_rr h hn 0
  have hrb := (Iv_b h).1
  have hN := hrb.1.1.1
  have hR := hrb.2.1.1
  have hG := hrb.2.1.2
  rcases way_c G GM hN hR p1 p2 with ⟨a3_0, a1_0, a2_0⟩ | ⟨a1_0, a2_0⟩ | ⟨a1_0, a2_0⟩
  · skip
    rcases nr_c p3 (-500) 999 with ⟨a1_1, a2_1, a3_1, a4_1⟩ | ⟨a1_1, a2_1⟩
    · skip
      rcases nr_c p4 1 999 with ⟨a1_2, a2_2, a3_2, a4_2⟩ | ⟨a1_2, a2_2⟩
      · skip
        rcases nr_c p5 0 99 with ⟨a1_3, a2_3, a3_3, a4_3⟩ | ⟨a1_3, a2_3⟩
        · skip
          have e32 : FM 32 0 = nI (cn F 32) := by rw [hR.at 32 (by decide)]; exact (hN.1.2.2.2).1
          rcases rm_c (F := F) (k := 32) (lim := 8) (l := 8) rfl (by omega) hN.1.2.2.2 with ⟨a1_4, a2_4, a3_4⟩ | ⟨a1_4, a2_4⟩
          · skip
            obtain ⟨F1, hF1⟩ : ∃ F1, F1 = u2 (u2 (u2 (u2 (u2 (u2 F 33 (cn F 32) p1) 34 (cn F 32) p2) 35 (cn F 32) p3) 36 (cn F 32) p4) 37 (cn F 32) p5) 32 0 (nI ((cn F 32) + 1)) := ⟨_, rfl⟩
            obtain ⟨hrr, h00⟩ := RR_dyken hr0 a3_4 a3_0 a3_2 a4_2 a3_3 a4_3 hF1
            have h0 := cn_of h00
            have hz := (hrb.1.2.1.2.2 (cn F 32)).2.2.2.2 (Nat.le_refl _)
            have i39 : u2 (u2 (u2 (u2 (u2 (u2 F 33 (cn F 32) p1) 34 (cn F 32) p2) 35 (cn F 32) p3) 36 (cn F 32) p4) 37 (cn F 32) p5) 39 (cn F 32) 0 = (u2 (u2 (u2 (u2 (u2 F 33 (cn F 32) p1) 34 (cn F 32) p2) 35 (cn F 32) p3) 36 (cn F 32) p4) 37 (cn F 32) p5) := by
              have := u2_id (u2 (u2 (u2 (u2 (u2 F 33 (cn F 32) p1) 34 (cn F 32) p2) 35 (cn F 32) p3) 36 (cn F 32) p4) 37 (cn F 32) p5) 39 (cn F 32)
              rwa [u2_other _ (by decide : 39 ≠ 37), u2_other _ (by decide : 39 ≠ 36), u2_other _ (by decide : 39 ≠ 35), u2_other _ (by decide : 39 ≠ 34), u2_other _ (by decide : 39 ≠ 33), hz.1] at this
            have i61 : u2 G 61 (cn F 32) 0 = G := by
              have := u2_id G 61 (cn F 32)
              rwa [hz.2] at this
            have hs : gX5_newDyke F G p1 p2 p3 p4 p5 = (F 32 0, (F1, G)) := by unfold gX5_newDyke; rw [i39, i61, hF1, hN.1.2.2.2.1, nI_1]
            obtain ⟨M1, m1, m2, m3, m4⟩ := Iv_act (F1 := F1) (G1 := G) h hn 6 p1 p2 p3 p4 p5 (ov_6 ⟨lK_of hN hrb.1.2.2.1.2.2, hN.1.2.2.2.1, a3_4⟩) (by rw [ac_6, hs]) (by rw [h0]; exact hrr)
            have hv : vp_in (nI (cn F 32)) 8 := nI_vin a3_4 (by omega)
            refine ⟨?_, ?_, Or.inl ⟨(F 32 0), _, _, M1, (F 32 0), _, _, ?_, ?_, ?_, ?_, m4⟩⟩
            · unfold okX11_addDyke
              refine ⟨nw_ok _ _, ?_⟩
              rw [bvd]; intro _
              rw [bvd]; intro _
              rw [bvd]; intro _
              rw [bvd]; intro _
              rw [bvd]; intro _
              refine ⟨(m1 _).2, ?_⟩
              rw [(m1 _).1, brd]; exact m3
            · unfold okX12_addDyke
              refine ⟨are_ok _ _ _ _, ?_⟩
              simp only [bvd, brd, a2_0, a2_1, a2_2, a2_3, e32, a2_4, u2_at, u2_u2, u2_other _ (show 32 ≠ 60 by decide), u2_other _ (show 32 ≠ 33 by decide), u2_other _ (show 32 ≠ 34 by decide), u2_other _ (show 32 ≠ 35 by decide), u2_other _ (show 32 ≠ 36 by decide), u2_other _ (show 32 ≠ 37 by decide), if_false, if_true, reduceIte]
              first | exact ⟨fun h => absurd h (by decide), fun _ => ⟨fun _ => ⟨hv, hv, hv, hv, hv⟩, fun _ => trivial⟩⟩ | skip
            · unfold gX11_addDyke
              rw [bvd, a1_0, if_pos rfl, bvd, a1_1, if_pos rfl, bvd, a1_2, if_pos rfl, bvd, a1_3, if_pos rfl, bvd, a1_4, if_pos rfl, (m1 _).1, brd, brd]
              show (0, (Int64.toInt32 (gX5_act F G (M1 82) (nI (6 * (M 80 0).toNatClampNeg))).1, ((gX5_act F G (M1 82) (nI (6 * (M 80 0).toNatClampNeg))).2, M1))) = _
              rw [m2, ac_6, hs, ti32]
            · unfold gX12_addDyke
              simp only [bvd, brd, a2_0, a2_1, a2_2, a2_3, e32, a2_4, u2_other _ (show 32 ≠ 60 by decide), u2_at, u2_u2, u2_other _ (show 32 ≠ 33 by decide), u2_other _ (show 32 ≠ 34 by decide), u2_other _ (show 32 ≠ 35 by decide), u2_other _ (show 32 ≠ 36 by decide), u2_other _ (show 32 ≠ 37 by decide), if_false, if_true, reduceIte, nI_clamp (show cn F 32 < 2 ^ 31 by omega), nI_1, nI_pred]
              rw [hN.1.2.2.2.1]
              rfl
            · simp only [u2_other _ (show 60 ≠ 32 by decide), u2_other _ (show 60 ≠ 33 by decide), u2_other _ (show 60 ≠ 34 by decide), u2_other _ (show 60 ≠ 35 by decide), u2_other _ (show 60 ≠ 36 by decide), u2_other _ (show 60 ≠ 37 by decide), u2_at]
            · rfl
          · refine ⟨?_, ?_, Or.inr ⟨3, 0, 0, 3, by decide, ?_, ?_, rfl⟩⟩
            · unfold okX11_addDyke
              refine ⟨nw_ok _ _, ?_⟩
              rw [bvd]; intro _
              rw [bvd]; intro _
              rw [bvd]; intro _
              rw [bvd]; intro _
              rw [bvd]; intro e; rw [a1_4] at e; exact absurd e (by decide)
            · unfold okX12_addDyke
              refine ⟨are_ok _ _ _ _, ?_⟩
              simp only [bvd, a2_0, a2_1, a2_2, a2_3, e32, a2_4, u2_other _ (show 32 ≠ 60 by decide), brd, u2_u2, u2_at, if_false, if_true, reduceIte]
              first | exact ⟨fun h => absurd h (by decide), fun _ => trivial⟩ | exact fun h => absurd h (by decide) | exact ⟨⟨fun _ => trivial, fun _ => ib_ok _ _ _⟩, fun h => absurd h (by decide), fun _ => trivial⟩ | exact ⟨fun h => absurd h (by decide), fun _ => ⟨fun h => absurd h (by decide), fun _ => trivial⟩⟩ | exact ⟨fun _ => ⟨fun h => absurd h (by decide), fun _ => trivial⟩, fun h => absurd rfl h⟩ | exact ⟨fun _ => ⟨fun h => absurd h (by decide), fun _ => trivial⟩, fun h => absurd trivial h⟩ | skip
            · unfold gX11_addDyke
              rw [bvd, a1_0, if_pos rfl, bvd, a1_1, if_pos rfl, bvd, a1_2, if_pos rfl, bvd, a1_3, if_pos rfl, bvd, a1_4, if_neg (by decide)]
            · unfold gX12_addDyke
              simp only [bvd, a2_0, a2_1, a2_2, a2_3, e32, a2_4, u2_other _ (show 32 ≠ 60 by decide), brd, u2_u2, u2_at, if_false, if_true, reduceIte]
              first | rfl | skip
        · refine ⟨?_, ?_, Or.inr ⟨2, 0, 0, 2, by decide, ?_, ?_, rfl⟩⟩
          · unfold okX11_addDyke
            refine ⟨nw_ok _ _, ?_⟩
            rw [bvd]; intro _
            rw [bvd]; intro _
            rw [bvd]; intro _
            rw [bvd]; intro e; rw [a1_3] at e; exact absurd e (by decide)
          · unfold okX12_addDyke
            refine ⟨are_ok _ _ _ _, ?_⟩
            simp only [bvd, a2_0, a2_1, a2_2, a2_3, brd, u2_u2, u2_at, if_false, if_true, reduceIte]
            first | exact ⟨fun h => absurd h (by decide), fun _ => trivial⟩ | exact fun h => absurd h (by decide) | exact ⟨⟨fun _ => trivial, fun _ => ib_ok _ _ _⟩, fun h => absurd h (by decide), fun _ => trivial⟩ | exact ⟨fun h => absurd h (by decide), fun _ => ⟨fun h => absurd h (by decide), fun _ => trivial⟩⟩ | exact ⟨fun _ => ⟨fun h => absurd h (by decide), fun _ => trivial⟩, fun h => absurd rfl h⟩ | exact ⟨fun _ => ⟨fun h => absurd h (by decide), fun _ => trivial⟩, fun h => absurd trivial h⟩ | skip
          · unfold gX11_addDyke
            rw [bvd, a1_0, if_pos rfl, bvd, a1_1, if_pos rfl, bvd, a1_2, if_pos rfl, bvd, a1_3, if_neg (by decide)]
          · unfold gX12_addDyke
            simp only [bvd, a2_0, a2_1, a2_2, a2_3, brd, u2_u2, u2_at, if_false, if_true, reduceIte]
            first | rfl | skip
      · refine ⟨?_, ?_, Or.inr ⟨2, 0, 0, 2, by decide, ?_, ?_, rfl⟩⟩
        · unfold okX11_addDyke
          refine ⟨nw_ok _ _, ?_⟩
          rw [bvd]; intro _
          rw [bvd]; intro _
          rw [bvd]; intro e; rw [a1_2] at e; exact absurd e (by decide)
        · unfold okX12_addDyke
          refine ⟨are_ok _ _ _ _, ?_⟩
          simp only [bvd, a2_0, a2_1, a2_2, brd, u2_u2, u2_at, if_false, if_true, reduceIte]
          first | exact ⟨fun h => absurd h (by decide), fun _ => trivial⟩ | exact fun h => absurd h (by decide) | exact ⟨⟨fun _ => trivial, fun _ => ib_ok _ _ _⟩, fun h => absurd h (by decide), fun _ => trivial⟩ | exact ⟨fun h => absurd h (by decide), fun _ => ⟨fun h => absurd h (by decide), fun _ => trivial⟩⟩ | exact ⟨fun _ => ⟨fun h => absurd h (by decide), fun _ => trivial⟩, fun h => absurd rfl h⟩ | exact ⟨fun _ => ⟨fun h => absurd h (by decide), fun _ => trivial⟩, fun h => absurd trivial h⟩ | skip
        · unfold gX11_addDyke
          rw [bvd, a1_0, if_pos rfl, bvd, a1_1, if_pos rfl, bvd, a1_2, if_neg (by decide)]
        · unfold gX12_addDyke
          simp only [bvd, a2_0, a2_1, a2_2, brd, u2_u2, u2_at, if_false, if_true, reduceIte]
          first | rfl | skip
    · refine ⟨?_, ?_, Or.inr ⟨2, 0, 0, 2, by decide, ?_, ?_, rfl⟩⟩
      · unfold okX11_addDyke
        refine ⟨nw_ok _ _, ?_⟩
        rw [bvd]; intro _
        rw [bvd]; intro e; rw [a1_1] at e; exact absurd e (by decide)
      · unfold okX12_addDyke
        refine ⟨are_ok _ _ _ _, ?_⟩
        simp only [bvd, a2_0, a2_1, brd, u2_u2, u2_at, if_false, if_true, reduceIte]
        first | exact ⟨fun h => absurd h (by decide), fun _ => trivial⟩ | exact fun h => absurd h (by decide) | exact ⟨⟨fun _ => trivial, fun _ => ib_ok _ _ _⟩, fun h => absurd h (by decide), fun _ => trivial⟩ | exact ⟨fun h => absurd h (by decide), fun _ => ⟨fun h => absurd h (by decide), fun _ => trivial⟩⟩ | exact ⟨fun _ => ⟨fun h => absurd h (by decide), fun _ => trivial⟩, fun h => absurd rfl h⟩ | exact ⟨fun _ => ⟨fun h => absurd h (by decide), fun _ => trivial⟩, fun h => absurd trivial h⟩ | skip
      · unfold gX11_addDyke
        rw [bvd, a1_0, if_pos rfl, bvd, a1_1, if_neg (by decide)]
      · unfold gX12_addDyke
        simp only [bvd, a2_0, a2_1, brd, u2_u2, u2_at, if_false, if_true, reduceIte]
        first | rfl | skip
  · refine ⟨?_, ?_, Or.inr ⟨1, 0, 0, 1, by decide, ?_, ?_, rfl⟩⟩
    · unfold okX11_addDyke
      refine ⟨nw_ok _ _, ?_⟩
      rw [bvd]; intro e; rw [a1_0] at e; exact absurd e (by decide)
    · unfold okX12_addDyke
      refine ⟨are_ok _ _ _ _, ?_⟩
      simp only [bvd, a2_0, brd, u2_u2, u2_at, if_false, if_true, reduceIte]
      first | exact ⟨fun h => absurd h (by decide), fun _ => trivial⟩ | exact fun h => absurd h (by decide) | exact ⟨⟨fun _ => trivial, fun _ => ib_ok _ _ _⟩, fun h => absurd h (by decide), fun _ => trivial⟩ | exact ⟨fun h => absurd h (by decide), fun _ => ⟨fun h => absurd h (by decide), fun _ => trivial⟩⟩ | exact ⟨fun _ => ⟨fun h => absurd h (by decide), fun _ => trivial⟩, fun h => absurd rfl h⟩ | exact ⟨fun _ => ⟨fun h => absurd h (by decide), fun _ => trivial⟩, fun h => absurd trivial h⟩ | skip
    · unfold gX11_addDyke
      rw [bvd, a1_0, if_neg (by decide)]
    · unfold gX12_addDyke
      simp only [bvd, a2_0, brd, u2_u2, u2_at, if_false, if_true, reduceIte]
      first | rfl | skip
  · refine ⟨?_, ?_, Or.inr ⟨2, 0, 0, 2, by decide, ?_, ?_, rfl⟩⟩
    · unfold okX11_addDyke
      refine ⟨nw_ok _ _, ?_⟩
      rw [bvd]; intro e; rw [a1_0] at e; exact absurd e (by decide)
    · unfold okX12_addDyke
      refine ⟨are_ok _ _ _ _, ?_⟩
      simp only [bvd, a2_0, brd, u2_u2, u2_at, if_false, if_true, reduceIte]
      first | exact ⟨fun h => absurd h (by decide), fun _ => trivial⟩ | exact fun h => absurd h (by decide) | exact ⟨⟨fun _ => trivial, fun _ => ib_ok _ _ _⟩, fun h => absurd h (by decide), fun _ => trivial⟩ | exact ⟨fun h => absurd h (by decide), fun _ => ⟨fun h => absurd h (by decide), fun _ => trivial⟩⟩ | exact ⟨fun _ => ⟨fun h => absurd h (by decide), fun _ => trivial⟩, fun h => absurd rfl h⟩ | exact ⟨fun _ => ⟨fun h => absurd h (by decide), fun _ => trivial⟩, fun h => absurd trivial h⟩ | skip
    · unfold gX11_addDyke
      rw [bvd, a1_0, if_neg (by decide)]
    · unfold gX12_addDyke
      simp only [bvd, a2_0, brd, u2_u2, u2_at, if_false, if_true, reduceIte]
      first | rfl | skip
