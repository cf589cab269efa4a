-- gates
theorem RR_gate {b : Int} {c : Nat} {F FM : jF} {G GM : jG} (h : RR b c F G FM GM) (h17 : cn F 17 < 8) {p1 p2 p3 p4 : Int32} (hw : wy F p1 p2) (a1 : 1 ≤ p3.toInt) (a2 : p3.toInt ≤ 9999) (b1 : 0 ≤ p4.toInt) (b2 : p4.toInt ≤ 3) {F1 : jF} (hF1 : F1 = u2 (u2 (u2 (u2 (u2 F 18 (cn F 17) p1) 19 (cn F 17) p2) 20 (cn F 17) p3) 21 (cn F 17) p4) 17 0 (nI (cn F 17 + 1))) : RR b c F1 G (u2 (u2 (u2 (u2 (u2 FM 18 (cn F 17) p1) 19 (cn F 17) p2) 20 (cn F 17) p3) 21 (cn F 17) p4) 17 0 (nI (cn F 17 + 1))) GM ∧ F1 0 = F 0 := by
  obtain ⟨⟨⟨x1, x2, x3, x4, x5, x6⟩, ⟨g1, g2, g3⟩, ⟨g4, g5, g6⟩, g7, g8⟩, ⟨h3, h4⟩, h5⟩ := h
  obtain ⟨n, hnd⟩ : ∃ n, n = cn F 17 := ⟨_, rfl⟩
  rw [← hnd]
  rw [← hnd] at hF1
  have ao : ∀ {ks : List Nat}, 17 ∉ ks → 18 ∉ ks → 19 ∉ ks → 20 ∉ ks → 21 ∉ ks → ag ks F F1 := fun q0 q1 q2 q3 q4 => by rw [hF1]; exact ag_tr (ag_tr (ag_tr (ag_tr (ag_off F q1 n _) (ag_off _ q2 n _)) (ag_off _ q3 n _)) (ag_off _ q4 n _)) (ag_off _ q0 0 _)
  have am : ∀ {ks : List Nat}, 17 ∉ ks → 18 ∉ ks → 19 ∉ ks → 20 ∉ ks → 21 ∉ ks → ag ks FM (u2 (u2 (u2 (u2 (u2 FM 18 n p1) 19 n p2) 20 n p3) 21 n p4) 17 0 (nI (n + 1))) := fun q0 q1 q2 q3 q4 => ag_tr (ag_tr (ag_tr (ag_tr (ag_off FM q1 n _) (ag_off _ q2 n _)) (ag_off _ q3 n _)) (ag_off _ q4 n _)) (ag_off _ q0 0 _)
  have a0 : ag [0, 1, 8, 16, 22, 23, 32, 40, 44] F F1 := ao (by decide) (by decide) (by decide) (by decide) (by decide)
  have e17 : F1 17 0 = nI (n + 1) := by rw [hF1, u2_at]
  have c17 : cn F1 17 = n + 1 := by unfold cn; rw [e17, nI_clamp (by omega)]
  have n1 : wN F1 := by
    obtain ⟨⟨y1, y2, y3, y4⟩, y5, y6, y7, y8⟩ := x1
    unfold wN
    rw [c17, cn_of (a0.at 8 (by decide)), cn_of (a0.at 44 (by decide)), cn_of (a0.at 23 (by decide)), cn_of (a0.at 32 (by decide)), cn_of (a0.at 40 (by decide)), cn_of (a0.at 1 (by decide)), cn_of (a0.at 0 (by decide)), a0.at 8 (by decide), a0.at 44 (by decide), a0.at 23 (by decide), a0.at 32 (by decide), a0.at 40 (by decide), a0.at 1 (by decide), a0.at 0 (by decide), e17]
    exact ⟨⟨y1, ⟨rfl, by omega⟩, y3, y4⟩, y5, y6, y7, y8⟩
  refine ⟨⟨⟨⟨n1, wB_c (ao (by decide) (by decide) (by decide) (by decide) (by decide)) rfl (fun _ _ => rfl) x2, wL_c (ao (by decide) (by decide) (by decide) (by decide) (by decide)) x3, wS_c (ao (by decide) (by decide) (by decide) (by decide) (by decide)) x4, wO_c (ao (by decide) (by decide) (by decide) (by decide) (by decide)) x5, wZ_c x1 n1 (ao (by decide) (by decide) (by decide) (by decide) (by decide)) (ag_rf _ G) x6⟩, ⟨fun i => ?_, wP_c (ao (by decide) (by decide) (by decide) (by decide) (by decide)) g2, wD_c (ao (by decide) (by decide) (by decide) (by decide) (by decide)) rfl g3⟩, ⟨wR_c (ao (by decide) (by decide) (by decide) (by decide) (by decide)) g4, wC_c (ao (by decide) (by decide) (by decide) (by decide) (by decide)) g5, wWk_c (ao (by decide) (by decide) (by decide) (by decide) (by decide)) g6⟩, wM_c (ao (by decide) (by decide) (by decide) (by decide) (by decide)) g7, wT_c (a0.at 16 (by decide)) g8⟩, ⟨by rw [hF1]; exact ag_u2 (ag_u2 (ag_u2 (ag_u2 (ag_u2 h3 18 n rfl) 19 n rfl) 20 n rfl) 21 n rfl) 17 0 rfl, h4⟩, rX_c (ao (by decide) (by decide) (by decide) (by decide) (by decide)) (am (by decide) (by decide) (by decide) (by decide) (by decide)) rfl rfl h5⟩, a0.at 0 (by decide)⟩
  obtain ⟨w1, w2, w3⟩ := g1 i
  have e18 : F1 18 i = if i = n then p1 else F 18 i := by rw [hF1, u2_other _ (by decide : 18 ≠ 17), u2_other _ (by decide : 18 ≠ 21), u2_other _ (by decide : 18 ≠ 20), u2_other _ (by decide : 18 ≠ 19), u2_same]
  have e19 : F1 19 i = if i = n then p2 else F 19 i := by rw [hF1, u2_other _ (by decide : 19 ≠ 17), u2_other _ (by decide : 19 ≠ 21), u2_other _ (by decide : 19 ≠ 20), u2_same, u2_other _ (by decide : 19 ≠ 18)]
  have e20 : F1 20 i = if i = n then p3 else F 20 i := by rw [hF1, u2_other _ (by decide : 20 ≠ 17), u2_other _ (by decide : 20 ≠ 21), u2_same, u2_other _ (by decide : 20 ≠ 19), u2_other _ (by decide : 20 ≠ 18)]
  have e21 : F1 21 i = if i = n then p4 else F 21 i := by rw [hF1, u2_other _ (by decide : 21 ≠ 17), u2_same, u2_other _ (by decide : 21 ≠ 20), u2_other _ (by decide : 21 ≠ 19), u2_other _ (by decide : 21 ≠ 18)]
  rw [c17, e18, e19, e20, e21, a0.at 22 (by decide)]
  refine ⟨fun hi => ?_, w2, fun hi => w3 (by omega)⟩
  by_cases e : i = n
  · rw [if_pos e, if_pos e, if_pos e, if_pos e]
    exact ⟨wy_c (a0.at 8 (by decide)) hw, ⟨a1, a2⟩, ⟨b1, b2⟩⟩
  · rw [if_neg e, if_neg e, if_neg e, if_neg e]
    obtain ⟨v1, v2⟩ := w1 (by omega)
    exact ⟨wy_c (a0.at 8 (by decide)) v1, v2⟩
theorem fm_addGate {n : Nat} {F F2 : jF} {G G2 : jG} {M FM : jF} {GM : jG} (h : Iv n F G F2 G2 M FM GM) (hn : n < 512) (p1 p2 p3 p4 : Int32) : okX11_addGate F G M p1 p2 p3 p4 ∧ okX12_addGate FM GM p1 p2 p3 p4 ∧ rM n F G F2 G2 M FM GM (fun x : Int32 => x.toInt64) (fun x : Int32 => x.toInt64) (wk 1 2 3) [1, 2, 3] (gX11_addGate F G M p1 p2 p3 p4) (gX12_addGate FM GM p1 p2 p3 p4) := by
  have hr0 := Iv_rr h hn 0
  have hrb := (Iv_b h).1
  have hN := hrb.1.1.1
  have hR := hrb.2.1.1
  have hG := hrb.2.1.2
  rcases way_c G GM hN hR p1 p2 with ⟨a3_0, a1_0, a2_0⟩ | ⟨a1_0, a2_0⟩ | ⟨a1_0, a2_0⟩
  · skip
    rcases nr_c p3 1 9999 with ⟨a1_1, a2_1, a3_1, a4_1⟩ | ⟨a1_1, a2_1⟩
    · skip
      rcases nr_c p4 0 3 with ⟨a1_2, a2_2, a3_2, a4_2⟩ | ⟨a1_2, a2_2⟩
      · skip
        have e17 : FM 17 0 = nI (cn F 17) := by rw [hR.at 17 (by decide)]; exact (hN.1.2.1).1
        rcases rm_c (F := F) (k := 17) (lim := 8) (l := 8) rfl (by omega) hN.1.2.1 with ⟨a1_3, a2_3, a3_3⟩ | ⟨a1_3, a2_3⟩
        · skip
          obtain ⟨F1, hF1⟩ : ∃ F1, F1 = u2 (u2 (u2 (u2 (u2 F 18 (cn F 17) p1) 19 (cn F 17) p2) 20 (cn F 17) p3) 21 (cn F 17) p4) 17 0 (nI (cn F 17 + 1)) := ⟨_, rfl⟩
          obtain ⟨hrr, h00⟩ := RR_gate hr0 a3_3 a3_0 a3_1 a4_1 a3_2 a4_2 hF1
          have h0 := cn_of h00
          have hz := (hrb.1.2.1.1 (cn F 17)).2.2 (Nat.le_refl _)
          have i22 : u2 (u2 (u2 (u2 (u2 F 18 (cn F 17) p1) 19 (cn F 17) p2) 20 (cn F 17) p3) 21 (cn F 17) p4) 22 (cn F 17) 0 = u2 (u2 (u2 (u2 F 18 (cn F 17) p1) 19 (cn F 17) p2) 20 (cn F 17) p3) 21 (cn F 17) p4 := by
            have := u2_id (u2 (u2 (u2 (u2 F 18 (cn F 17) p1) 19 (cn F 17) p2) 20 (cn F 17) p3) 21 (cn F 17) p4) 22 (cn F 17)
            rwa [u2_other _ (by decide : 22 ≠ 21), u2_other _ (by decide : 22 ≠ 20), u2_other _ (by decide : 22 ≠ 19), u2_other _ (by decide : 22 ≠ 18), hz] at this
          have hs : gX5_newGate F G p1 p2 p3 p4 = (F 17 0, (F1, G)) := by unfold gX5_newGate; rw [i22, hF1, hN.1.2.1.1, nI_1]
          obtain ⟨M1, m1, m2, m3, m4⟩ := Iv_act (F1 := F1) (G1 := G) h hn 4 p1 p2 p3 p4 0 (ov_4 ⟨lK_of hN hrb.1.2.2.1.2.2, hN.1.2.1.1, a3_3⟩) (by rw [ac_4, hs]) (by rw [h0]; exact hrr)
          have hv : vp_in (nI (cn F 17)) 8 := nI_vin a3_3 (by omega)
          refine ⟨?_, ?_, Or.inl ⟨(F 17 0), _, _, M1, (F 17 0), _, _, ?_, ?_, ?_, ?_, m4⟩⟩
          · unfold okX11_addGate
            refine ⟨nw_ok _ _, ?_⟩
            rw [bvd]; intro _
            rw [bvd]; intro _
            rw [bvd]; intro _
            rw [bvd]; intro _
            refine ⟨(m1 _).2, ?_⟩
            rw [(m1 _).1, brd]; exact m3
          · unfold okX12_addGate
            refine ⟨are_ok _ _ _ _, ?_⟩
            simp only [bvd, brd, a2_0, a2_1, a2_2, e17, a2_3, u2_at, u2_u2, u2_other _ (show 17 ≠ 60 by decide), u2_other _ (show 17 ≠ 18 by decide), u2_other _ (show 17 ≠ 19 by decide), u2_other _ (show 17 ≠ 20 by decide), u2_other _ (show 17 ≠ 21 by decide), if_false, if_true, reduceIte]
            first | exact ⟨fun h => absurd h (by decide), fun _ => ⟨fun _ => ⟨hv, hv, hv, hv⟩, fun _ => trivial⟩⟩ | skip
          · unfold gX11_addGate
            rw [bvd, a1_0, if_pos rfl, bvd, a1_1, if_pos rfl, bvd, a1_2, if_pos rfl, bvd, a1_3, if_pos rfl, (m1 _).1, brd, brd]
            show (0, (Int64.toInt32 (gX5_act F G (M1 82) (nI (6 * (M 80 0).toNatClampNeg))).1, ((gX5_act F G (M1 82) (nI (6 * (M 80 0).toNatClampNeg))).2, M1))) = _
            rw [m2, ac_4, hs, ti32]
          · unfold gX12_addGate
            simp only [bvd, brd, a2_0, a2_1, a2_2, e17, a2_3, u2_other _ (show 17 ≠ 60 by decide), u2_at, u2_u2, u2_other _ (show 17 ≠ 18 by decide), u2_other _ (show 17 ≠ 19 by decide), u2_other _ (show 17 ≠ 20 by decide), u2_other _ (show 17 ≠ 21 by decide), if_false, if_true, reduceIte, nI_clamp (show cn F 17 < 2 ^ 31 by omega), nI_1, nI_pred]
            rw [hN.1.2.1.1]
            rfl
          · simp only [u2_other _ (show 60 ≠ 17 by decide), u2_other _ (show 60 ≠ 18 by decide), u2_other _ (show 60 ≠ 19 by decide), u2_other _ (show 60 ≠ 20 by decide), u2_other _ (show 60 ≠ 21 by decide), u2_at]
          · rfl
        · refine ⟨?_, ?_, Or.inr ⟨3, 0, 0, 3, by decide, ?_, ?_, rfl⟩⟩
          · unfold okX11_addGate
            refine ⟨nw_ok _ _, ?_⟩
            rw [bvd]; intro _
            rw [bvd]; intro _
            rw [bvd]; intro _
            rw [bvd]; intro e; rw [a1_3] at e; exact absurd e (by decide)
          · unfold okX12_addGate
            refine ⟨are_ok _ _ _ _, ?_⟩
            simp only [bvd, a2_0, a2_1, a2_2, e17, a2_3, u2_other _ (show 17 ≠ 60 by decide), brd, u2_u2, u2_at, if_false, if_true, reduceIte]
            first | exact ⟨fun h => absurd h (by decide), fun _ => trivial⟩ | exact fun h => absurd h (by decide) | exact ⟨⟨fun _ => trivial, fun _ => ib_ok _ _ _⟩, fun h => absurd h (by decide), fun _ => trivial⟩ | exact ⟨fun h => absurd h (by decide), fun _ => ⟨fun h => absurd h (by decide), fun _ => trivial⟩⟩ | exact ⟨fun _ => ⟨fun h => absurd h (by decide), fun _ => trivial⟩, fun h => absurd rfl h⟩ | exact ⟨fun _ => ⟨fun h => absurd h (by decide), fun _ => trivial⟩, fun h => absurd trivial h⟩ | skip
          · unfold gX11_addGate
            rw [bvd, a1_0, if_pos rfl, bvd, a1_1, if_pos rfl, bvd, a1_2, if_pos rfl, bvd, a1_3, if_neg (by decide)]
          · unfold gX12_addGate
            simp only [bvd, a2_0, a2_1, a2_2, e17, a2_3, u2_other _ (show 17 ≠ 60 by decide), brd, u2_u2, u2_at, if_false, if_true, reduceIte]
            first | rfl | skip
      · refine ⟨?_, ?_, Or.inr ⟨2, 0, 0, 2, by decide, ?_, ?_, rfl⟩⟩
        · unfold okX11_addGate
          refine ⟨nw_ok _ _, ?_⟩
          rw [bvd]; intro _
          rw [bvd]; intro _
          rw [bvd]; intro e; rw [a1_2] at e; exact absurd e (by decide)
        · unfold okX12_addGate
          refine ⟨are_ok _ _ _ _, ?_⟩
          simp only [bvd, a2_0, a2_1, a2_2, brd, u2_u2, u2_at, if_false, if_true, reduceIte]
          first | exact ⟨fun h => absurd h (by decide), fun _ => trivial⟩ | exact fun h => absurd h (by decide) | exact ⟨⟨fun _ => trivial, fun _ => ib_ok _ _ _⟩, fun h => absurd h (by decide), fun _ => trivial⟩ | exact ⟨fun h => absurd h (by decide), fun _ => ⟨fun h => absurd h (by decide), fun _ => trivial⟩⟩ | exact ⟨fun _ => ⟨fun h => absurd h (by decide), fun _ => trivial⟩, fun h => absurd rfl h⟩ | exact ⟨fun _ => ⟨fun h => absurd h (by decide), fun _ => trivial⟩, fun h => absurd trivial h⟩ | skip
        · unfold gX11_addGate
          rw [bvd, a1_0, if_pos rfl, bvd, a1_1, if_pos rfl, bvd, a1_2, if_neg (by decide)]
        · unfold gX12_addGate
          simp only [bvd, a2_0, a2_1, a2_2, brd, u2_u2, u2_at, if_false, if_true, reduceIte]
          first | rfl | skip
    · refine ⟨?_, ?_, Or.inr ⟨2, 0, 0, 2, by decide, ?_, ?_, rfl⟩⟩
      · unfold okX11_addGate
        refine ⟨nw_ok _ _, ?_⟩
        rw [bvd]; intro _
        rw [bvd]; intro e; rw [a1_1] at e; exact absurd e (by decide)
      · unfold okX12_addGate
        refine ⟨are_ok _ _ _ _, ?_⟩
        simp only [bvd, a2_0, a2_1, brd, u2_u2, u2_at, if_false, if_true, reduceIte]
        first | exact ⟨fun h => absurd h (by decide), fun _ => trivial⟩ | exact fun h => absurd h (by decide) | exact ⟨⟨fun _ => trivial, fun _ => ib_ok _ _ _⟩, fun h => absurd h (by decide), fun _ => trivial⟩ | exact ⟨fun h => absurd h (by decide), fun _ => ⟨fun h => absurd h (by decide), fun _ => trivial⟩⟩ | exact ⟨fun _ => ⟨fun h => absurd h (by decide), fun _ => trivial⟩, fun h => absurd rfl h⟩ | exact ⟨fun _ => ⟨fun h => absurd h (by decide), fun _ => trivial⟩, fun h => absurd trivial h⟩ | skip
      · unfold gX11_addGate
        rw [bvd, a1_0, if_pos rfl, bvd, a1_1, if_neg (by decide)]
      · unfold gX12_addGate
        simp only [bvd, a2_0, a2_1, brd, u2_u2, u2_at, if_false, if_true, reduceIte]
        first | rfl | skip
  · refine ⟨?_, ?_, Or.inr ⟨1, 0, 0, 1, by decide, ?_, ?_, rfl⟩⟩
    · unfold okX11_addGate
      refine ⟨nw_ok _ _, ?_⟩
      rw [bvd]; intro e; rw [a1_0] at e; exact absurd e (by decide)
    · unfold okX12_addGate
      refine ⟨are_ok _ _ _ _, ?_⟩
      simp only [bvd, a2_0, brd, u2_u2, u2_at, if_false, if_true, reduceIte]
      first | exact ⟨fun h => absurd h (by decide), fun _ => trivial⟩ | exact fun h => absurd h (by decide) | exact ⟨⟨fun _ => trivial, fun _ => ib_ok _ _ _⟩, fun h => absurd h (by decide), fun _ => trivial⟩ | exact ⟨fun h => absurd h (by decide), fun _ => ⟨fun h => absurd h (by decide), fun _ => trivial⟩⟩ | exact ⟨fun _ => ⟨fun h => absurd h (by decide), fun _ => trivial⟩, fun h => absurd rfl h⟩ | exact ⟨fun _ => ⟨fun h => absurd h (by decide), fun _ => trivial⟩, fun h => absurd trivial h⟩ | skip
    · unfold gX11_addGate
      rw [bvd, a1_0, if_neg (by decide)]
    · unfold gX12_addGate
      simp only [bvd, a2_0, brd, u2_u2, u2_at, if_false, if_true, reduceIte]
      first | rfl | skip
  · refine ⟨?_, ?_, Or.inr ⟨2, 0, 0, 2, by decide, ?_, ?_, rfl⟩⟩
    · unfold okX11_addGate
      refine ⟨nw_ok _ _, ?_⟩
      rw [bvd]; intro e; rw [a1_0] at e; exact absurd e (by decide)
    · unfold okX12_addGate
      refine ⟨are_ok _ _ _ _, ?_⟩
      simp only [bvd, a2_0, brd, u2_u2, u2_at, if_false, if_true, reduceIte]
      first | exact ⟨fun h => absurd h (by decide), fun _ => trivial⟩ | exact fun h => absurd h (by decide) | exact ⟨⟨fun _ => trivial, fun _ => ib_ok _ _ _⟩, fun h => absurd h (by decide), fun _ => trivial⟩ | exact ⟨fun h => absurd h (by decide), fun _ => ⟨fun h => absurd h (by decide), fun _ => trivial⟩⟩ | exact ⟨fun _ => ⟨fun h => absurd h (by decide), fun _ => trivial⟩, fun h => absurd rfl h⟩ | exact ⟨fun _ => ⟨fun h => absurd h (by decide), fun _ => trivial⟩, fun h => absurd trivial h⟩ | skip
    · unfold gX11_addGate
      rw [bvd, a1_0, if_neg (by decide)]
    · unfold gX12_addGate
      simp only [bvd, a2_0, brd, u2_u2, u2_at, if_false, if_true, reduceIte]
      first | rfl | skip
