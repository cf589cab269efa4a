-- storm
theorem RR_storm {b : Int} {c : Nat} {F FM : jF} {G GM : jG} (h : RR b c F G FM GM) (h40 : cn F 40 < 12) {p1 p2 p3 : Int32} (a1 : 0 ≤ p1.toInt) (a2 : p1.toInt ≤ 9999) (b1 : 1 ≤ p2.toInt) (b2 : p2.toInt ≤ 99) (c1 : 1 ≤ p3.toInt) (c2 : p3.toInt ≤ 500) {F1 : jF} (hF1 : F1 = u2 (u2 (u2 (u2 (u2 F 41 (cn F 40) p1) 42 (cn F 40) p2) 43 (cn F 40) p3) 63 (cn F 40) (-1)) 40 0 (nI ((cn F 40) + 1))) : RR b c F1 (u2 G 69 0 (gX6_seaAt F1 G (F1 0 0))) (u2 (u2 (u2 (u2 FM 41 (cn F 40) p1) 42 (cn F 40) p2) 43 (cn F 40) p3) 40 0 (nI ((cn F 40) + 1))) GM ∧ okX6_seaAt F1 G (F1 0 0) ∧ F1 0 = F 0 := by
  obtain ⟨⟨⟨x1, x2, x3, x4, x5, x6⟩, ⟨g1, g2, g3⟩, ⟨g4, g5, g6⟩, g7, g8⟩, ⟨h3, h4⟩, h5⟩ := h
  obtain ⟨n, hnd⟩ : ∃ n, n = cn F 40 := ⟨_, rfl⟩
  rw [← hnd]
  rw [← hnd] at hF1
  have ao : ∀ {ks : List Nat}, 40 ∉ ks → 41 ∉ ks → 42 ∉ ks → 43 ∉ ks → 63 ∉ ks → ag ks F F1 := fun q0 q1 q2 q3 q4 => by rw [hF1]; exact ag_tr (ag_tr (ag_tr (ag_tr (ag_off F q1 n _) (ag_off _ q2 n _)) (ag_off _ q3 n _)) (ag_off _ q4 n _)) (ag_off _ q0 0 _)
  have am : ∀ {ks : List Nat}, 40 ∉ ks → 41 ∉ ks → 42 ∉ ks → 43 ∉ ks → ag ks FM (u2 (u2 (u2 (u2 FM 41 n p1) 42 n p2) 43 n p3) 40 0 (nI (n + 1))) := fun q0 q1 q2 q3 => ag_tr (ag_tr (ag_tr (ag_off FM q1 n _) (ag_off _ q2 n _)) (ag_off _ q3 n _)) (ag_off _ q0 0 _)
  have a0 : ag [0, 1, 8, 16, 17, 23, 32, 44] F F1 := ao (by decide) (by decide) (by decide) (by decide) (by decide)
  have e40 : F1 40 0 = nI (n + 1) := by rw [hF1, u2_at]
  have c40 : cn F1 40 = n + 1 := by unfold cn; rw [e40, nI_clamp (by omega)]
  have n1 : wN F1 := by
    obtain ⟨⟨y1, y2, y3, y4⟩, y5, y6, y7, y8⟩ := x1
    unfold wN
    rw [c40, cn_of (a0.at 8 (by decide)), cn_of (a0.at 17 (by decide)), cn_of (a0.at 23 (by decide)), cn_of (a0.at 32 (by decide)), cn_of (a0.at 44 (by decide)), cn_of (a0.at 1 (by decide)), cn_of (a0.at 0 (by decide)), a0.at 8 (by decide), a0.at 17 (by decide), a0.at 23 (by decide), a0.at 32 (by decide), a0.at 44 (by decide), a0.at 1 (by decide), a0.at 0 (by decide), e40]
    exact ⟨⟨y1, y2, y3, y4⟩, ⟨rfl, by omega⟩, y6, y7, y8⟩
  have e41 : ∀ i, F1 41 i = if i = n then p1 else F 41 i := fun i => by rw [hF1, u2_other _ (by decide : 41 ≠ 40), u2_other _ (by decide : 41 ≠ 63), u2_other _ (by decide : 41 ≠ 43), u2_other _ (by decide : 41 ≠ 42), u2_same]
  have e42 : ∀ i, F1 42 i = if i = n then p2 else F 42 i := fun i => by rw [hF1, u2_other _ (by decide : 42 ≠ 40), u2_other _ (by decide : 42 ≠ 63), u2_other _ (by decide : 42 ≠ 43), u2_same, u2_other _ (by decide : 42 ≠ 41)]
  have e43 : ∀ i, F1 43 i = if i = n then p3 else F 43 i := fun i => by rw [hF1, u2_other _ (by decide : 43 ≠ 40), u2_other _ (by decide : 43 ≠ 63), u2_same, u2_other _ (by decide : 43 ≠ 42), u2_other _ (by decide : 43 ≠ 41)]
  have s1 : wS F1 := fun i hi => by
    rw [c40] at hi
    rw [e41, e42, e43]
    by_cases e : i = n
    · rw [if_pos e, if_pos e, if_pos e]; exact ⟨⟨a1, a2⟩, ⟨b1, b2⟩, ⟨c1, c2⟩⟩
    · rw [if_neg e, if_neg e, if_neg e]; exact x4 i (by omega)
  have hr := n1.hr
  obtain ⟨v, hv⟩ : ∃ v, v = gX6_seaAt F1 G (F1 0 0) := ⟨_, rfl⟩
  rw [← hv]
  have gO : ∀ {k}, k ≠ 69 → u2 G 69 0 v k = G k := fun hk => u2_other G hk 0 v
  refine ⟨⟨⟨⟨n1, wB_c (ao (by decide) (by decide) (by decide) (by decide) (by decide)) (gO (by decide)) (fun i _ => by rw [gO (by decide : 14 ≠ 69)]) x2, ?_, s1, wO_c (ao (by decide) (by decide) (by decide) (by decide) (by decide)) x5, ?_⟩, ⟨wG_c (ao (by decide) (by decide) (by decide) (by decide) (by decide)) g1, wP_c (ao (by decide) (by decide) (by decide) (by decide) (by decide)) g2, wD_c (ao (by decide) (by decide) (by decide) (by decide) (by decide)) (gO (by decide)) g3⟩, ⟨wR_c (ao (by decide) (by decide) (by decide) (by decide) (by decide)) g4, wC_c (ao (by decide) (by decide) (by decide) (by decide) (by decide)) g5, wWk_c (ao (by decide) (by decide) (by decide) (by decide) (by decide)) g6⟩, wM_c (ao (by decide) (by decide) (by decide) (by decide) (by decide)) g7, wT_c (a0.at 16 (by decide)) g8⟩, ⟨fun k hk => ?_, fun k hk => by rw [u2_other G (fun e => by subst e; revert hk; decide)]; exact h4 k hk⟩, rX_c (ao (by decide) (by decide) (by decide) (by decide) (by decide)) (am (by decide) (by decide) (by decide) (by decide)) (gO (by decide)) rfl h5⟩, sea_ok n1 s1 hr.1 (by omega), a0.at 0 (by decide)⟩
  · have hl := wL_c (F1 := F1) (ao (by decide) (by decide) (by decide) (by decide) (by decide)) x3
    refine ⟨hl.1, fun i hi => ?_⟩
    have := hl.2 i hi
    unfold lev at *
    rw [gO (by decide : 14 ≠ 69)]
    exact this
  · obtain ⟨-, z2, z3, z4⟩ := x6
    refine ⟨?_, ?_, ?_, ?_⟩
    · rw [u2_at, hv]; exact sea_G n1 _ _ _
    · rw [gO (by decide : 58 ≠ 69)]; exact z2
    · rw [gO (by decide : 57 ≠ 69)]; exact z3
    · rw [gO (by decide : 57 ≠ 69), cn_of (a0.at 1 (by decide))]; exact z4
  · have hag := ag_u2 (ag_u2 (ag_u2 (ag_u2 h3 41 n (v := p1) (v' := p1) rfl) 42 n (v := p2) (v' := p2) rfl) 43 n (v := p3) (v' := p3) rfl) 40 0 (v := nI (n + 1)) (v' := nI (n + 1)) rfl
    have hne : k ≠ 63 := fun e => by subst e; revert hk; decide
    rw [hag k hk, hF1, u2_cm _ (by decide : 63 ≠ 40), u2_other _ hne]
theorem fm_storm {n : Nat} {F F2 : jF} {G G2 : jG} {M FM : jF} {GM : jG} (h : Iv n F G F2 G2 M FM GM) (hn : n < 512) (p1 p2 p3 : Int32) : okX11_storm F G M p1 p2 p3 ∧ okX12_storm FM GM p1 p2 p3 ∧ rM n F G F2 G2 M FM GM (fun x : Int32 => x.toInt64) (fun x : Int32 => x.toInt64) (wk 2 3 9) [2, 3] (gX11_storm F G M p1 p2 p3) (gX12_storm FM GM p1 p2 p3) := by
  have hr0 := Iv_rr h hn 0
  have hrb := (Iv_b h).1
  have hN := hrb.1.1.1
  have hR := hrb.2.1.1
  have hG := hrb.2.1.2
  rcases nr_c p1 0 9999 with ⟨a1_0, a2_0, a3_0, a4_0⟩ | ⟨a1_0, a2_0⟩
  · skip
    rcases nr_c p2 1 99 with ⟨a1_1, a2_1, a3_1, a4_1⟩ | ⟨a1_1, a2_1⟩
    · skip
      rcases nr_c p3 1 500 with ⟨a1_2, a2_2, a3_2, a4_2⟩ | ⟨a1_2, a2_2⟩
      · skip
        have e40 : FM 40 0 = nI (cn F 40) := by rw [hR.at 40 (by decide)]; exact (hN.2.1).1
        rcases rm_c (F := F) (k := 40) (lim := 12) (l := 12) rfl (by omega) hN.2.1 with ⟨a1_3, a2_3, a3_3⟩ | ⟨a1_3, a2_3⟩
        · skip
          obtain ⟨F1, hF1⟩ : ∃ F1, F1 = u2 (u2 (u2 (u2 (u2 F 41 (cn F 40) p1) 42 (cn F 40) p2) 43 (cn F 40) p3) 63 (cn F 40) (-1)) 40 0 (nI ((cn F 40) + 1)) := ⟨_, rfl⟩
          obtain ⟨hrr, hsk, h00⟩ := RR_storm hr0 a3_3 a3_0 a4_0 a3_1 a4_1 a3_2 a4_2 hF1
          have h0 := cn_of h00
          have ha : gX6_addStorm F G p1 p2 p3 = (F 40 0 + 1, (F1, G)) := by unfold gX6_addStorm; rw [hF1, hN.2.1.1, nI_1]
          have hs : gX10_tellStorm F G p1 p2 p3 = (F 40 0 + 1, (F1, u2 G 69 0 (gX6_seaAt F1 G (F1 0 0)))) := by unfold gX10_tellStorm; rw [ha, brd, bvd, bvd]
          have hso : okX10_tellStorm F G p1 p2 p3 := by unfold okX10_tellStorm; rw [ha, brd]; exact ⟨⟨lK_of hN hrb.1.2.2.1.2.2, hN.2.1.1, a3_3⟩, hsk⟩
          obtain ⟨M1, m1, m2, m3, m4⟩ := Iv_act (F1 := F1) (G1 := u2 G 69 0 (gX6_seaAt F1 G (F1 0 0))) h hn 8 p1 p2 p3 0 0 (ov_8 hso) (by rw [ac_8, hs]) (by rw [h0]; exact hrr)
          have hv : vp_in (nI (cn F 40)) 12 := nI_vin a3_3 (by omega)
          refine ⟨?_, ?_, Or.inl ⟨(F 40 0 + 1), _, _, M1, (nI (cn F 40 + 1)), _, _, ?_, ?_, ?_, ?_, m4⟩⟩
          · unfold okX11_storm
            rw [bvd]; intro _
            rw [bvd]; intro _
            rw [bvd]; intro _
            rw [bvd]; intro _
            refine ⟨(m1 _).2, ?_⟩
            rw [(m1 _).1, brd]; exact m3
          · unfold okX12_storm
            simp only [bvd, a2_0, a2_1, a2_2, e40, a2_3, u2_at, u2_other _ (show 40 ≠ 60 by decide), u2_other _ (show 40 ≠ 41 by decide), u2_other _ (show 40 ≠ 42 by decide), u2_other _ (show 40 ≠ 43 by decide), if_false, if_true, reduceIte]
            first | exact ⟨fun _ => ⟨hv, hv, hv⟩, fun _ => trivial⟩ | exact ⟨hv, hv, hv⟩ | skip
          · unfold gX11_storm
            rw [bvd, a1_0, if_pos rfl, bvd, a1_1, if_pos rfl, bvd, a1_2, if_pos rfl, bvd, a1_3, if_pos rfl, (m1 _).1, brd, brd]
            show (0, (Int64.toInt32 (gX5_act F G (M1 82) (nI (6 * (M 80 0).toNatClampNeg))).1, ((gX5_act F G (M1 82) (nI (6 * (M 80 0).toNatClampNeg))).2, M1))) = _
            rw [m2, ac_8, hs, ti32]
          · unfold gX12_storm
            simp only [bvd, a2_0, a2_1, a2_2, e40, a2_3, u2_other _ (show 40 ≠ 60 by decide), u2_at, u2_other _ (show 40 ≠ 41 by decide), u2_other _ (show 40 ≠ 42 by decide), u2_other _ (show 40 ≠ 43 by decide), if_false, if_true, reduceIte, nI_clamp (show cn F 40 < 2 ^ 31 by omega), nI_1]
            rfl
          · simp only [u2_other _ (show 60 ≠ 40 by decide), u2_other _ (show 60 ≠ 41 by decide), u2_other _ (show 60 ≠ 42 by decide), u2_other _ (show 60 ≠ 43 by decide), u2_at]
          · (show (F 40 0 + 1).toInt64 = _; rw [hN.2.1.1, nI_1])
        · refine ⟨?_, ?_, Or.inr ⟨3, 0, 0, 2, by decide, ?_, ?_, rfl⟩⟩
          · unfold okX11_storm
            rw [bvd]; intro _
            rw [bvd]; intro _
            rw [bvd]; intro _
            rw [bvd]; intro e; rw [a1_3] at e; exact absurd e (by decide)
          · unfold okX12_storm
            simp only [bvd, a2_0, a2_1, a2_2, e40, a2_3, u2_other _ (show 40 ≠ 60 by decide), u2_at, if_false, if_true, reduceIte]
            first | exact ⟨fun h => absurd h (by decide), fun _ => trivial⟩ | exact fun h => absurd h (by decide) | exact ⟨⟨fun _ => trivial, fun _ => ib_ok _ _ _⟩, fun h => absurd h (by decide), fun _ => trivial⟩ | exact ⟨fun h => absurd h (by decide), fun _ => ⟨fun h => absurd h (by decide), fun _ => trivial⟩⟩ | exact ⟨fun _ => ⟨fun h => absurd h (by decide), fun _ => trivial⟩, fun h => absurd rfl h⟩ | exact ⟨fun _ => ⟨fun h => absurd h (by decide), fun _ => trivial⟩, fun h => absurd trivial h⟩ | skip
          · unfold gX11_storm
            rw [bvd, a1_0, if_pos rfl, bvd, a1_1, if_pos rfl, bvd, a1_2, if_pos rfl, bvd, a1_3, if_neg (by decide)]
          · unfold gX12_storm
            simp only [bvd, a2_0, a2_1, a2_2, e40, a2_3, u2_other _ (show 40 ≠ 60 by decide), u2_at, if_false, if_true, reduceIte]
            first | rfl | skip
      · refine ⟨?_, ?_, Or.inr ⟨2, 0, 0, 1, by decide, ?_, ?_, rfl⟩⟩
        · unfold okX11_storm
          rw [bvd]; intro _
          rw [bvd]; intro _
          rw [bvd]; intro e; rw [a1_2] at e; exact absurd e (by decide)
        · unfold okX12_storm
          simp only [bvd, a2_0, a2_1, a2_2, u2_at, if_false, if_true, reduceIte]
          first | exact ⟨fun h => absurd h (by decide), fun _ => trivial⟩ | exact fun h => absurd h (by decide) | exact ⟨⟨fun _ => trivial, fun _ => ib_ok _ _ _⟩, fun h => absurd h (by decide), fun _ => trivial⟩ | exact ⟨fun h => absurd h (by decide), fun _ => ⟨fun h => absurd h (by decide), fun _ => trivial⟩⟩ | exact ⟨fun _ => ⟨fun h => absurd h (by decide), fun _ => trivial⟩, fun h => absurd rfl h⟩ | exact ⟨fun _ => ⟨fun h => absurd h (by decide), fun _ => trivial⟩, fun h => absurd trivial h⟩ | skip
        · unfold gX11_storm
          rw [bvd, a1_0, if_pos rfl, bvd, a1_1, if_pos rfl, bvd, a1_2, if_neg (by decide)]
        · unfold gX12_storm
          simp only [bvd, a2_0, a2_1, a2_2, u2_at, if_false, if_true, reduceIte]
          first | rfl | skip
    · refine ⟨?_, ?_, Or.inr ⟨2, 0, 0, 1, by decide, ?_, ?_, rfl⟩⟩
      · unfold okX11_storm
        rw [bvd]; intro _
        rw [bvd]; intro e; rw [a1_1] at e; exact absurd e (by decide)
      · unfold okX12_storm
        simp only [bvd, a2_0, a2_1, u2_at, if_false, if_true, reduceIte]
        first | exact ⟨fun h => absurd h (by decide), fun _ => trivial⟩ | exact fun h => absurd h (by decide) | exact ⟨⟨fun _ => trivial, fun _ => ib_ok _ _ _⟩, fun h => absurd h (by decide), fun _ => trivial⟩ | exact ⟨fun h => absurd h (by decide), fun _ => ⟨fun h => absurd h (by decide), fun _ => trivial⟩⟩ | exact ⟨fun _ => ⟨fun h => absurd h (by decide), fun _ => trivial⟩, fun h => absurd rfl h⟩ | exact ⟨fun _ => ⟨fun h => absurd h (by decide), fun _ => trivial⟩, fun h => absurd trivial h⟩ | skip
      · unfold gX11_storm
        rw [bvd, a1_0, if_pos rfl, bvd, a1_1, if_neg (by decide)]
      · unfold gX12_storm
        simp only [bvd, a2_0, a2_1, u2_at, if_false, if_true, reduceIte]
        first | rfl | skip
  · refine ⟨?_, ?_, Or.inr ⟨2, 0, 0, 1, by decide, ?_, ?_, rfl⟩⟩
    · unfold okX11_storm
      rw [bvd]; intro e; rw [a1_0] at e; exact absurd e (by decide)
    · unfold okX12_storm
      simp only [bvd, a2_0, u2_at, if_false, if_true, reduceIte]
      first | exact ⟨fun h => absurd h (by decide), fun _ => trivial⟩ | exact fun h => absurd h (by decide) | exact ⟨⟨fun _ => trivial, fun _ => ib_ok _ _ _⟩, fun h => absurd h (by decide), fun _ => trivial⟩ | exact ⟨fun h => absurd h (by decide), fun _ => ⟨fun h => absurd h (by decide), fun _ => trivial⟩⟩ | exact ⟨fun _ => ⟨fun h => absurd h (by decide), fun _ => trivial⟩, fun h => absurd rfl h⟩ | exact ⟨fun _ => ⟨fun h => absurd h (by decide), fun _ => trivial⟩, fun h => absurd trivial h⟩ | skip
    · unfold gX11_storm
      rw [bvd, a1_0, if_neg (by decide)]
    · unfold gX12_storm
      simp only [bvd, a2_0, u2_at, if_false, if_true, reduceIte]
      first | rfl | skip
