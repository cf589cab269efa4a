-- methods that change something, laid by a program
theorem RR_4 {b : Int} {c : Nat} {F FM : jF} {G GM : jG} (h : RR b c F G FM GM) {p : Int32} (a1 : 0 ≤ p.toInt) (a2 : p.toInt ≤ 9999) : RR b c (u2 F 4 0 p) G (u2 FM 4 0 p) GM := by
  obtain ⟨⟨⟨x1, x2, x3, x4, x5, x6⟩, ⟨g1, g2, g3⟩, ⟨g4, g5, g6⟩, g7, g8⟩, ⟨h3, h4⟩, h5⟩ := h
  have n1 : wN (u2 F 4 0 p) := wN_c (ag_off F (by decide) 0 p) x1
  refine ⟨⟨⟨n1, wB_c (ag_off F (by decide) 0 p) rfl (fun _ _ => rfl) x2, wL_c (ag_off F (by decide) 0 p) x3, wS_c (ag_off F (by decide) 0 p) x4, ?_, wZ_c x1 n1 (ag_off F (by decide) 0 p) (ag_rf _ G) x6⟩, ⟨wG_c (ag_off F (by decide) 0 p) g1, wP_c (ag_off F (by decide) 0 p) g2, wD_c (ag_off F (by decide) 0 p) rfl g3⟩, ⟨wR_c (ag_off F (by decide) 0 p) g4, wC_c (ag_off F (by decide) 0 p) g5, wWk_c (ag_off F (by decide) 0 p) g6⟩, wM_c (ag_off F (by decide) 0 p) g7, wT_c (u2_other F (by decide : 16 ≠ 4) 0 p) g8⟩, ⟨ag_u2 h3 4 0 rfl, h4⟩, rX_c (ag_off F (by decide) 0 p) (ag_off FM (by decide) 0 p) rfl rfl h5⟩
  unfold wO at *
  rw [u2_other F (by decide : 5 ≠ 4), u2_other F (by decide : 6 ≠ 4), u2_other F (by decide : 7 ≠ 4), u2_at]
  exact ⟨x5.1, x5.2.1, x5.2.2.1, a1, a2⟩
theorem fm_setSeed {n : Nat} {F F2 : jF} {G G2 : jG} {M FM : jF} {GM : jG} (h : Iv n F G F2 G2 M FM GM) (hn : n < 512) (p1 : Int32) : okX11_setSeed F G M p1 ∧ rM n F G F2 G2 M FM GM (fun x : Int32 => x.toInt64) (fun x : Int32 => x.toInt64) (wk 2 9 9) [2] (gX11_setSeed F G M p1) (gX12_setSeed FM GM p1) := by
  have hr0 := Iv_rr h hn 0
  have hrb := (Iv_b h).1
  have hN := hrb.1.1.1
  have hR := hrb.2.1.1
  have hG := hrb.2.1.2
  rcases nr_c p1 0 9999 with ⟨a1_0, a2_0, a3_0, a4_0⟩ | ⟨a1_0, a2_0⟩
  · skip
    have hrr := RR_4 hr0 a3_0 a4_0
    have h0 : cn (u2 F 4 0 p1) 0 = cn F 0 := cn_of (u2_other F (by decide : 0 ≠ 4) 0 p1)
    have r4 := hR.at 4 (by decide)
    have hs : gX6_sow F G p1 = (F 4 0, (u2 F 4 0 p1, G)) := by unfold gX6_sow; rw [bvd, bvd]
    obtain ⟨M1, m1, m2, m3, m4⟩ := Iv_act (F1 := u2 F 4 0 p1) (G1 := G) h hn 10 p1 0 0 0 0 (ov_10 trivial) (by rw [ac_10, hs]) (by rw [h0]; exact hrr)
    refine ⟨?_, Or.inl ⟨F 4 0, _, _, M1, F 4 0, _, _, ?_, ?_, ?_, ?_, m4⟩⟩
    · unfold okX11_setSeed
      rw [bvd]; intro _
      refine ⟨(m1 _).2, ?_⟩
      rw [(m1 _).1, brd]; exact m3
    · unfold gX11_setSeed
      rw [bvd, a1_0, if_pos rfl, (m1 _).1, brd, brd]
      show (0, (Int64.toInt32 (gX5_act F G (M1 82) (nI (6 * (M 80 0).toNatClampNeg))).1, ((gX5_act F G (M1 82) (nI (6 * (M 80 0).toNatClampNeg))).2, M1))) = _
      rw [m2, ac_10, hs, ti32]
    · unfold gX12_setSeed
      simp only [bvd, a2_0, u2_at, u2_other _ (show 60 ≠ 4 by decide), u2_other _ (show 4 ≠ 60 by decide), if_false, if_true, reduceIte, r4]
      rfl
    · simp only [u2_other _ (show 60 ≠ 4 by decide), u2_at]
    · rfl
  · refine ⟨?_, Or.inr ⟨2, 0, 0, 1, by decide, ?_, ?_, rfl⟩⟩
    · unfold okX11_setSeed
      rw [bvd]; intro e; rw [a1_0] at e; exact absurd e (by decide)
    · unfold gX11_setSeed
      rw [bvd, a1_0, if_neg (by decide)]
    · unfold gX12_setSeed
      simp only [bvd, a2_0, u2_at, if_false, if_true, reduceIte]
      simp only [u2_other _ (show 60 ≠ 4 by decide), u2_other _ (show 4 ≠ 60 by decide), u2_at]
      have i4 : u2 (u2 FM 60 0 1) 4 0 (FM 4 0) = u2 FM 60 0 1 := by
        have := u2_id (u2 FM 60 0 1) 4 0
        rwa [u2_other _ (by decide : 4 ≠ 60)] at this
      first | exact congrArg (fun z => ((0 : Int32), (z, GM))) i4 | skip
theorem fm_pour {n : Nat} {F F2 : jF} {G G2 : jG} {M FM : jF} {GM : jG} (h : Iv n F G F2 G2 M FM GM) (hn : n < 512) (p1 p2 : Int32) : okX11_pour F G M p1 p2 ∧ okX12_pour FM GM p1 p2 ∧ rM n F G F2 G2 M FM GM (fun x : Int64 => x) (fun x : Int64 => x) (wk 1 2 9) [1, 2] (gX11_pour F G M p1 p2) (gX12_pour FM GM p1 p2) := by
  have hr0 := Iv_rr h hn 0
  have hrb := (Iv_b h).1
  have hN := hrb.1.1.1
  have hR := hrb.2.1.1
  have hG := hrb.2.1.2
  rcases bn_c G GM hN hR p1 with ⟨j0, hj0, hj8_0, e1_0, e2_0, e3_0, e4_0⟩ | ⟨e2_0, e3_0, e4_0⟩
  · skip
    rcases nr_c p2 0 1000000 with ⟨a1_1, a2_1, a3_1, a4_1⟩ | ⟨a1_1, a2_1⟩
    · skip
      have hrr := RR_pour (RR_c hrb 0) (d := 1000000) (by have := (Iv_b h).2; omega) hj0 0 (x := p2.toInt64) (by rw [i3264]; exact a3_1) (by rw [i3264]; exact a4_1)
      have hb := br_0 G hN.1.1.2 hj0 p2
      rw [← e1_0] at hb
      have hp : gX10_pourInto F G p1 p2 = (mvp 0 G j0 p2.toInt64 14 j0, (F, mvp 0 G j0 p2.toInt64)) := by unfold gX10_pourInto; rw [hb, brd]
      obtain ⟨M1, m1, m2, m3, m4⟩ := Iv_act (F1 := F) (G1 := mvp 0 G j0 p2.toInt64) h hn 2 p1 p2 0 0 0 (ov_2 (bg_ok _ _ _ (Or.inl rfl))) (by rw [ac_2, hp]) (by rw [show 1000000 * ((n + 1 : Nat) : Int) + 119988 * (cn F 0 : Int) = 1000000 * (n : Int) + 119988 * (cn F 0 : Int) + 1000000 by omega]; exact hrr)
      have hv : vp_in p1 8 := by rw [e1_0]; exact nI_vin hj8_0 (by omega)
      have ecl : p1.toNatClampNeg = j0 := by rw [e1_0]; exact nI_clamp (by omega)
      have hm14 := (mvp_ag hG 0 j0 p2.toInt64).at 14 (by decide)
      refine ⟨?_, ?_, Or.inl ⟨mvp 0 G j0 p2.toInt64 14 j0, _, _, M1, mvp 0 GM j0 p2.toInt64 14 j0, _, _, ?_, ?_, ?_, ?_, m4⟩⟩
      · unfold okX11_pour
        refine ⟨nb_ok _ _ _, ?_⟩
        rw [e2_0, om_s]
        rw [bvd]; intro _
        refine ⟨(m1 _).2, ?_⟩
        rw [(m1 _).1, brd]; exact m3
      · unfold okX12_pour
        refine ⟨ib_ok _ _ _, ?_⟩
        simp only [bvd, e4_0, a2_1, u2_at, if_false, if_true, reduceIte]
        first | exact ⟨fun _ => ⟨hv, hv, hv⟩, fun _ => trivial⟩ | exact ⟨hv, hv, hv⟩ | skip
      · unfold gX11_pour
        rw [e2_0, om_s, bvd, a1_1, if_pos rfl, (m1 _).1, brd, brd]
        show (0, ((gX5_act F G (M1 82) (nI (6 * (M 80 0).toNatClampNeg))).1, ((gX5_act F G (M1 82) (nI (6 * (M 80 0).toNatClampNeg))).2, M1))) = _
        rw [m2, ac_2, hp]
      · unfold gX12_pour
        simp only [bvd, e4_0, a2_1, u2_at, if_false, if_true, reduceIte, ecl]
        rfl
      · exact u2_at FM 60 0 0
      · exact (congrFun hm14 j0).symm
    · refine ⟨?_, ?_, Or.inr ⟨2, 0, 0, 2, by decide, ?_, ?_, rfl⟩⟩
      · unfold okX11_pour
        refine ⟨nb_ok _ _ _, ?_⟩
        rw [e2_0, om_s]
        rw [bvd]; intro e; rw [a1_1] at e; exact absurd e (by decide)
      · unfold okX12_pour
        refine ⟨ib_ok _ _ _, ?_⟩
        simp only [bvd, e4_0, a2_1, u2_at, if_false, if_true, reduceIte]
        first | exact ⟨fun h => absurd h (by decide), fun _ => trivial⟩ | exact fun h => absurd h (by decide) | skip
      · unfold gX11_pour
        rw [e2_0, om_s, bvd, a1_1, if_neg (by decide)]
      · unfold gX12_pour
        simp only [bvd, e4_0, a2_1, u2_at, if_false, if_true, reduceIte]
        first | rfl | skip
  · refine ⟨?_, ?_, Or.inr ⟨1, 0, 0, 1, by decide, ?_, ?_, rfl⟩⟩
    · unfold okX11_pour
      refine ⟨nb_ok _ _ _, ?_⟩
      rw [e2_0, om_n]; trivial
    · unfold okX12_pour
      refine ⟨ib_ok _ _ _, ?_⟩
      simp only [bvd, e4_0, u2_at, if_false, if_true, reduceIte]
      first | exact ⟨fun h => absurd h (by decide), fun _ => trivial⟩ | exact fun h => absurd h (by decide) | skip
    · unfold gX11_pour
      rw [e2_0, om_n]
    · unfold gX12_pour
      simp only [bvd, e4_0, u2_at, if_false, if_true, reduceIte]
      first | rfl | skip
theorem RR_out {b : Int} {c : Nat} {F FM : jF} {G GM : jG} (h : RR b c F G FM GM) {p1 p2 p3 : Int32} (a1 : -99 ≤ p1.toInt) (a2 : p1.toInt ≤ 99) (b1 : 0 ≤ p2.toInt) (b2 : p2.toInt ≤ 400) (c1 : -9999 ≤ p3.toInt) (c2 : p3.toInt ≤ 99999) {F1 : jF} (hF1 : F1 = u2 (u2 (u2 F 5 0 p1) 6 0 p2) 7 0 p3) : RR b c F1 (u2 G 69 0 (gX6_seaAt F1 G (F1 0 0))) (u2 (u2 (u2 FM 5 0 p1) 6 0 p2) 7 0 p3) GM ∧ okX6_seaAt F1 G (F1 0 0) ∧ F1 0 = F 0 := by
  obtain ⟨⟨⟨x1, x2, x3, x4, x5, x6⟩, ⟨g1, g2, g3⟩, ⟨g4, g5, g6⟩, g7, g8⟩, ⟨h3, h4⟩, h5⟩ := h
  have ao : ∀ {ks : List Nat}, 5 ∉ ks → 6 ∉ ks → 7 ∉ ks → ag ks F F1 := fun q1 q2 q3 => by rw [hF1]; exact ag_tr (ag_tr (ag_off F q1 0 p1) (ag_off _ q2 0 p2)) (ag_off _ q3 0 p3)
  have am : ∀ {ks : List Nat}, 5 ∉ ks → 6 ∉ ks → 7 ∉ ks → ag ks FM (u2 (u2 (u2 FM 5 0 p1) 6 0 p2) 7 0 p3) := fun q1 q2 q3 => ag_tr (ag_tr (ag_off FM q1 0 p1) (ag_off _ q2 0 p2)) (ag_off _ q3 0 p3)
  have n1 : wN F1 := wN_c (ao (by decide) (by decide) (by decide)) x1
  have s1 : wS F1 := wS_c (ao (by decide) (by decide) (by decide)) x4
  have hr := n1.hr
  have a0 : ag [0, 4, 16] F F1 := ao (by decide) (by decide) (by decide)
  obtain ⟨v, hv⟩ : ∃ v, v = gX6_seaAt F1 G (F1 0 0) := ⟨_, rfl⟩
  rw [← hv]
  have gO : ∀ {k}, k ≠ 69 → u2 G 69 0 v k = G k := fun hk => u2_other G hk 0 v
  refine ⟨⟨⟨⟨n1, wB_c (ao (by decide) (by decide) (by decide)) (gO (by decide)) (fun i _ => by rw [gO (by decide : 14 ≠ 69)]) x2, ?_, s1, ?_, ?_⟩, ⟨wG_c (ao (by decide) (by decide) (by decide)) g1, wP_c (ao (by decide) (by decide) (by decide)) g2, wD_c (ao (by decide) (by decide) (by decide)) (gO (by decide)) g3⟩, ⟨wR_c (ao (by decide) (by decide) (by decide)) g4, wC_c (ao (by decide) (by decide) (by decide)) g5, wWk_c (ao (by decide) (by decide) (by decide)) g6⟩, wM_c (ao (by decide) (by decide) (by decide)) g7, wT_c (a0.at 16 (by decide)) g8⟩, ⟨by rw [hF1]; exact ag_u2 (ag_u2 (ag_u2 h3 5 0 rfl) 6 0 rfl) 7 0 rfl, fun k hk => by rw [u2_other G (fun e => by subst e; revert hk; decide)]; exact h4 k hk⟩, rX_c (ao (by decide) (by decide) (by decide)) (am (by decide) (by decide) (by decide)) (gO (by decide)) rfl h5⟩, sea_ok n1 s1 hr.1 (by omega), a0.at 0 (by decide)⟩
  · have hl := wL_c (F1 := F1) (ao (by decide) (by decide) (by decide)) x3
    refine ⟨hl.1, fun i hi => ?_⟩
    have := hl.2 i hi
    unfold lev at *
    rw [gO (by decide : 14 ≠ 69)]
    exact this
  · unfold wO
    rw [a0.at 4 (by decide), hF1]
    rw [u2_other _ (by decide : 5 ≠ 7), u2_other _ (by decide : 5 ≠ 6), u2_at, u2_other _ (by decide : 6 ≠ 7), u2_at, u2_at]
    exact ⟨⟨a1, a2⟩, ⟨b1, b2⟩, ⟨c1, c2⟩, x5.2.2.2⟩
  · obtain ⟨-, z2, z3, z4⟩ := x6
    have e1 : cn F1 1 = cn F 1 := cn_of (ao (ks := [1]) (by decide) (by decide) (by decide) 1 (by decide))
    refine ⟨?_, ?_, ?_, ?_⟩
    · rw [u2_at, hv]; exact sea_G n1 _ _ _
    · rw [gO (by decide : 58 ≠ 69)]; exact z2
    · rw [gO (by decide : 57 ≠ 69)]; exact z3
    · rw [gO (by decide : 57 ≠ 69), e1]; exact z4
theorem fm_setOutside {n : Nat} {F F2 : jF} {G G2 : jG} {M FM : jF} {GM : jG} (h : Iv n F G F2 G2 M FM GM) (hn : n < 512) (p1 p2 p3 : Int32) : okX11_setOutside F G M p1 p2 p3 ∧ rV n F G F2 G2 M FM GM (wk 2 9 9) [2] (gX11_setOutside F G M p1 p2 p3) (gX12_setOutside FM GM p1 p2 p3) := by
  have hr0 := Iv_rr h hn 0
  have hrb := (Iv_b h).1
  have hN := hrb.1.1.1
  have hR := hrb.2.1.1
  have hG := hrb.2.1.2
  rcases nr_c p1 (-99) 99 with ⟨a1_0, a2_0, a3_0, a4_0⟩ | ⟨a1_0, a2_0⟩
  · skip
    rcases nr_c p2 0 400 with ⟨a1_1, a2_1, a3_1, a4_1⟩ | ⟨a1_1, a2_1⟩
    · skip
      rcases nr_c p3 (-9999) 99999 with ⟨a1_2, a2_2, a3_2, a4_2⟩ | ⟨a1_2, a2_2⟩
      · skip
        obtain ⟨F1, hF1⟩ : ∃ F1, F1 = u2 (u2 (u2 F 5 0 p1) 6 0 p2) 7 0 p3 := ⟨_, rfl⟩
        obtain ⟨hrr, hsk, h00⟩ := RR_out hr0 a3_0 a4_0 a3_1 a4_1 a3_2 a4_2 hF1
        have h0 := cn_of h00
        have hl : gX6_lay F G p1 p2 p3 = (F1, G) := by unfold gX6_lay; rw [bvd, bvd, bvd, hF1]
        have hs : gX10_layOutside F G p1 p2 p3 = (0, (F1, u2 G 69 0 (gX6_seaAt F1 G (F1 0 0)))) := by unfold gX10_layOutside; rw [hl, bsd, bvd, bvd]
        have hso : okX10_layOutside F G p1 p2 p3 := by unfold okX10_layOutside; rw [hl, bsd]; exact hsk
        obtain ⟨M1, m1, m2, m3, m4⟩ := Iv_act (F1 := F1) (G1 := u2 G 69 0 (gX6_seaAt F1 G (F1 0 0))) h hn 7 p1 p2 p3 0 0 (ov_7 hso) (by rw [ac_7, hs]) (by rw [h0]; exact hrr)
        refine ⟨?_, Or.inl ⟨_, _, M1, _, _, ?_, ?_, ?_, m4⟩⟩
        · unfold okX11_setOutside
          rw [bvd]; intro _
          rw [bvd]; intro _
          rw [bvd]; intro _
          refine ⟨(m1 _).2, ?_⟩
          rw [(m1 _).1, brd]; exact m3
        · unfold gX11_setOutside
          rw [bvd, a1_0, if_pos rfl, bvd, a1_1, if_pos rfl, bvd, a1_2, if_pos rfl, (m1 _).1, brd, brd]
          show (0, ((gX5_act F G (M1 82) (nI (6 * (M 80 0).toNatClampNeg))).2, M1)) = _
          rw [m2, ac_7, hs]
        · unfold gX12_setOutside
          simp only [bvd, a2_0, a2_1, a2_2, u2_at, if_false, if_true, reduceIte]
          rfl
        · simp only [u2_other _ (show 60 ≠ 7 by decide), u2_other _ (show 60 ≠ 6 by decide), u2_other _ (show 60 ≠ 5 by decide), u2_at]
      · refine ⟨?_, Or.inr ⟨2, 1, by decide, ?_, ?_, rfl⟩⟩
        · unfold okX11_setOutside
          rw [bvd]; intro _
          rw [bvd]; intro _
          rw [bvd]; intro e; rw [a1_2] at e; exact absurd e (by decide)
        · unfold gX11_setOutside
          rw [bvd, a1_0, if_pos rfl, bvd, a1_1, if_pos rfl, bvd, a1_2, if_neg (by decide)]
        · unfold gX12_setOutside
          simp only [bvd, a2_0, a2_1, a2_2, u2_at, if_false, if_true, reduceIte]
          first | rfl | skip
    · refine ⟨?_, Or.inr ⟨2, 1, by decide, ?_, ?_, rfl⟩⟩
      · unfold okX11_setOutside
        rw [bvd]; intro _
        rw [bvd]; intro e; rw [a1_1] at e; exact absurd e (by decide)
      · unfold gX11_setOutside
        rw [bvd, a1_0, if_pos rfl, bvd, a1_1, if_neg (by decide)]
      · unfold gX12_setOutside
        simp only [bvd, a2_0, a2_1, u2_at, if_false, if_true, reduceIte]
        first | rfl | skip
  · refine ⟨?_, Or.inr ⟨2, 1, by decide, ?_, ?_, rfl⟩⟩
    · unfold okX11_setOutside
      rw [bvd]; intro e; rw [a1_0] at e; exact absurd e (by decide)
    · unfold gX11_setOutside
      rw [bvd, a1_0, if_neg (by decide)]
    · unfold gX12_setOutside
      simp only [bvd, a2_0, u2_at, if_false, if_true, reduceIte]
      first | rfl | skip
