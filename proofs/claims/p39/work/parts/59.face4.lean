-- methods that change something, laid by a program
theorem RR_4 {b : Int} {c : Nat} {F FM : jF} {G GM : jG} (h : RR b c F G FM GM) {p : Int32} (a1 : 0 ≤ p.toInt) (a2 : p.toInt ≤ 9999) : RR b c (u2 F 4 0 p) G (u2 FM 4 0 p) GM := by
  obtain ⟨⟨⟨x1, x2, x3, x4, x5, x6⟩, ⟨g1, g2, g3⟩, ⟨g4, g5, g6⟩, g7, g8⟩, ⟨h3, h4⟩, h5⟩ := h
  have n1 : wN (u2 F 4 0 p) := wN_c (ag_off F (by decide) 0 p) x1
  refine ⟨⟨⟨n1, wB_c (ag_off F (by decide) 0 p) rfl (fun _ _ => rfl) x2, wL_c (ag_off F (by decide) 0 p) x3, wS_c (ag_off F (by decide) 0 p) x4, ?_, wZ_c x1 n1 (ag_off F (by decide) 0 p) (ag_rf _ G) x6⟩, ⟨wG_c (ag_off F (by decide) 0 p) g1, wP_c (ag_off F (by decide) 0 p) g2, wD_c (ag_off F (by decide) 0 p) rfl g3⟩, ⟨wR_c (ag_off F (by decide) 0 p) g4, wC_c (ag_off F (by decide) 0 p) g5, wWk_c (ag_off F (by decide) 0 p) g6⟩, wM_c (ag_off F (by decide) 0 p) g7, wT_c (u2_other F (by decide : 16 ≠ 4) 0 p) g8⟩, ⟨ag_u2 h3 4 0 rfl, h4⟩, rX_c (ag_off F (by decide) 0 p) (ag_off FM (by decide) 0 p) rfl rfl h5⟩
  unfold wO at *
  rw [u2_other F (by decide : 5 ≠ 4), u2_other F (by decide : 6 ≠ 4), u2_other F (by decide : 7 ≠ 4), u2_at]
  exact ⟨x5.1, x5.2.1, x5.2.2.1, a1, a2⟩
theorem fm_setSeed {n : Nat} {F F2 : jF} {G G2 : jG} {M FM : jF} {GM : jG} (h : Iv n F G F2 G2 M FM GM) (hn : n < 512) (p1 : Int32) : okX11_setSeed F G M p1 ∧ rM n F G F2 G2 M FM GM (fun x : Int32 => x.toInt64) (fun x : Int32 => x.toInt64) (wk 2 9 9) [2] (gX11_setSeed F G M p1) (gX12_setSeed FM GM p1) := by
  have hr0 := Iv_rr h hn 0
  have hrb := (Iv_b h).1
  have hN := hrb.1.1.1
  have hR := hrb.2.1.1
  have hG := hrb.2.1.2
  rcases nr_c p1 0 9999 with ⟨a1_0, a2_0, a3_0, a4_0⟩ | ⟨a1_0, a2_0⟩
  · skip
    have hrr := RR_4 hr0 a3_0 a4_0
    have h0 : cn (u2 F 4 0 p1) 0 = cn F 0 := cn_of (u2_other F (by decide : 0 ≠ 4) 0 p1)
    have r4 := hR.at 4 (by decide)
    have hs : gX6_sow F G p1 = (F 4 0, (u2 F 4 0 p1, G)) := by unfold gX6_sow; rw [bvd, bvd]
    obtain ⟨M1, m1, m2, m3, m4⟩ := Iv_act (F1 := u2 F 4 0 p1) (G1 := G) h hn 10 p1 0 0 0 0 (ov_10 trivial) (by rw [ac_10, hs]) (by rw [h0]; exact hrr)
    refine ⟨?_, Or.inl ⟨F 4 0, _, _, M1, F 4 0, _, _, ?_, ?_, ?_, ?_, m4⟩⟩
    · unfold okX11_setSeed
      rw [bvd]; intro _
      refine ⟨(m1 _).2, ?_⟩
      rw [(m1 _).1, brd]; exact m3
    · unfold gX11_setSeed
      rw [bvd, a1_0, if_pos rfl, (m1 _).1, brd, brd]
      show (0, (Int64.toInt32 (gX5_act F G (M1 82) (nI (6 * (M 80 0).toNatClampNeg))).1, ((gX5_act F G (M1 82) (nI (6 * (M 80 0).toNatClampNeg))).2, M1))) = _
      rw [m2, ac_10, hs, ti32]
    · unfold gX12_setSeed
      simp only [bvd, a2_0, u2_at, u2_other _ (show 60 ≠ 4 by decide), u2_other _ (show 4 ≠ 60 by decide), if_false, if_true, reduceIte, r4]
      rfl
    · simp only [u2_other _ (show 60 ≠ 4 by decide), u2_at]
    · rfl
  · refine ⟨?_, Or.inr ⟨2, 0, 0, 1, by decide, ?_, ?_, rfl⟩⟩
    · unfold okX11_setSeed
      rw [bvd]; intro e; rw [a1_0] at e; exact absurd e (by decide)
    · unfold gX11_setSeed
      rw [bvd, a1_0, if_neg (by decide)]
    · unfold gX12_setSeed
      simp only [bvd, a2_0, u2_at, if_false, if_true, reduceIte]
      simp only [u2_other _ (show 60 ≠ 4 by decide), u2_other _ (show 4 ≠ 60 by decide), u2_at]
      have i4 : u2 (u2 FM 60 0 1) 4 0 (FM 4 0) = u2 FM 60 0 1 := by
        have := u2_id (u2 FM 60 0 1) 4 0
        rwa [u2_other _ (by decide : 4 ≠ 60)] at this
      first | exact congrArg (fun z => ((0 : Int32), (z, GM))) i4 | skip
theorem fm_pour {n : Nat} {F F2 : jF} {G G2 : jG} {M FM : jF} {GM : jG} (h : Iv n F G F2 G2 M FM GM) (hn : n < 512) (p1 p2 : Int32) : okX11_pour F G M p1 p2 ∧ okX12_pour FM GM p1 p2 ∧ rM n F G F2 G2 M FM GM (fun x : Int64 => x) (fun x : Int64 => x) (wk 1 2 9) [1, 2] (gX11_pour F G M p1 p2) (gX12_pour FM GM p1 p2) := by
  have hr0 := Iv_rr h hn 0
  have hrb := (Iv_b h).1
  have hN := hrb.1.1.1
  have hR := hrb.2.1.1
  have hG := hrb.2.1.2
  rcases bn_c G GM hN hR p1 with ⟨j0, hj0, hj8_0, e1_0, e2_0, e3_0, e4_0⟩ | ⟨e2_0, e3_0, e4_0⟩
  · skip
    rcases nr_c p2 0 1000000 with ⟨a1_1, a2_1, a3_1, a4_1⟩ | ⟨a1_1, a2_1⟩
    · skip
      have hrr := RR_pour (RR_c hrb 0) (d := 1000000) (by have := (Iv_b h).2; omega) hj0 0 (x := p2.toInt64) (by rw [i3264]; exact a3_1) (by rw [i3264]; exact a4_1)
      have hb := br_0 G hN.1.1.2 hj0 p2
      rw [← e1_0] at hb
      have hp : gX10_pourInto F G p1 p2 = (mvp 0 G j0 p2.toInt64 14 j0, (F, mvp 0 G j0 p2.toInt64)) := by unfold gX10_pourInto; rw [hb, brd]
      obtain ⟨M1, m1, m2, m3, m4⟩ := Iv_act (F1 := F) (G1 := mvp 0 G j0 p2.toInt64) h hn 2 p1 p2 0 0 0 (ov_2 (bg_ok _ _ _ (Or.inl rfl))) (by rw [ac_2, hp]) (by rw [show 1000000 * ((n + 1 : Nat) : Int) + 119988 * (cn F 0 : Int) = 1000000 * (n : Int) + 119988 * (cn F 0 : Int) + 1000000 by omega]; exact hrr)
      have hv : vp_in p1 8 := by rw [e1_0]; exact nI_vin hj8_0 (by omega)
      have ecl : p1.toNatClampNeg = j0 := by rw [e1_0]; exact nI_clamp (by omega)
      have hm14 := (mvp_ag hG 0 j0 p2.toInt64).at 14 (by decide)
      refine ⟨?_, ?_, Or.inl ⟨mvp 0 G j0 p2.toInt64 14 j0, _, _, M1, mvp 0 GM j0 p2.toInt64 14 j0, _, _, ?_, ?_, ?_, ?_, m4⟩⟩
      · unfold okX11_pour
        refine ⟨nb_ok _ _ _, ?_⟩
        rw [e2_0, om_s]
        rw [bvd]; intro _
        refine ⟨(m1 _).2, ?_⟩
        rw [(m1 _).1, brd]; exact m3
      · unfold okX12_pour
        refine ⟨ib_ok _ _ _, ?_⟩
        simp only [bvd, e4_0, a2_1, u2_at, if_false, if_true, reduceIte]
        first | exact ⟨fun _ => ⟨hv, hv, hv⟩, fun _ => trivial⟩ | exact ⟨hv, hv, hv⟩ | skip
      · unfold gX11_pour
        rw [e2_0, om_s, bvd, a1_1, if_pos rfl, (m1 _).1, brd, brd]
        show (0, ((gX5_act F G (M1 82) (nI (6 * (M 80 0).toNatClampNeg))).1, ((gX5_act F G (M1 82) (nI (6 * (M 80 0).toNatClampNeg))).2, M1))) = _
        rw [m2, ac_2, hp]
      · unfold gX12_pour
        simp only [bvd, e4_0, a2_1, u2_at, if_false, if_true, reduceIte, ecl]
        rfl
      · exact u2_at FM 60 0 0
      · exact (congrFun hm14 j0).symm
    · refine ⟨?_, ?_, Or.inr ⟨2, 0, 0, 2, by decide, ?_, ?_, rfl⟩⟩
      · unfold okX11_pour
        refine ⟨nb_ok _ _ _, ?_⟩
        rw [e2_0, om_s]
        rw [bvd]; intro e; rw [a1_1] at e; exact absurd e (by decide)
      · unfold okX12_pour
        refine ⟨ib_ok _ _ _, ?_⟩
        simp only [bvd, e4_0, a2_1, u2_at, if_false, if_true, reduceIte]
        first | exact ⟨fun h => absurd h (by decide), fun _ => trivial⟩ | exact fun h => absurd h (by decide) | exact ⟨⟨fun _ => trivial, fun _ => ib_ok _ _ _⟩, fun h => absurd h (by decide), fun _ => trivial⟩ | exact ⟨fun h => absurd h (by decide), fun _ => ⟨fun h => absurd h (by decide), fun _ => trivial⟩⟩ | exact ⟨fun _ => ⟨fun h => absurd h (by decide), fun _ => trivial⟩, fun h => absurd rfl h⟩ | exact ⟨fun _ => ⟨fun h => absurd h (by decide), fun _ => trivial⟩, fun h => absurd trivial h⟩ | skip
      · unfold gX11_pour
        rw [e2_0, om_s, bvd, a1_1, if_neg (by decide)]
      · unfold gX12_pour
        simp only [bvd, e4_0, a2_1, u2_at, if_false, if_true, reduceIte]
        first | rfl | skip
  · refine ⟨?_, ?_, Or.inr ⟨1, 0, 0, 1, by decide, ?_, ?_, rfl⟩⟩
    · unfold okX11_pour
      refine ⟨nb_ok _ _ _, ?_⟩
      rw [e2_0, om_n]; trivial
    · unfold okX12_pour
      refine ⟨ib_ok _ _ _, ?_⟩
      simp only [bvd, e4_0, u2_at, if_false, if_true, reduceIte]
      first | exact ⟨fun h => absurd h (by decide), fun _ => trivial⟩ | exact fun h => absurd h (by decide) | exact ⟨⟨fun _ => trivial, fun _ => ib_ok _ _ _⟩, fun h => absurd h (by decide), fun _ => trivial⟩ | exact ⟨fun h => absurd h (by decide), fun _ => ⟨fun h => absurd h (by decide), fun _ => trivial⟩⟩ | exact ⟨fun _ => ⟨fun h => absurd h (by decide), fun _ => trivial⟩, fun h => absurd rfl h⟩ | exact ⟨fun _ => ⟨fun h => absurd h (by decide), fun _ => trivial⟩, fun h => absurd trivial h⟩ | skip
    · unfold gX11_pour
      rw [e2_0, om_n]
    · unfold gX12_pour
      simp only [bvd, e4_0, u2_at, if_false, if_true, reduceIte]
      first | rfl | skip
theorem RR_out {b : Int} {c : Nat} {F FM : jF} {G GM : jG} (h : RR b c F G FM GM) {p1 p2 p3 : Int32} (a1 : -99 ≤ p1.toInt) (a2 : p1.toInt ≤ 99) (b1 : 0 ≤ p2.toInt) (b2 : p2.toInt ≤ 400) (c1 : -9999 ≤ p3.toInt) (c2 : p3.toInt ≤ 99999) {F1 : jF} (hF1 : F1 = u2 (u2 (u2 F 5 0 p1) 6 0 p2) 7 0 p3) : RR b c F1 (u2 G 69 0 (gX6_seaAt F1 G (F1 0 0))) (u2 (u2 (u2 FM 5 0 p1) 6 0 p2) 7 0 p3) GM ∧ okX6_seaAt F1 G (F1 0 0) ∧ F1 0 = F 0 := by
  obtain ⟨⟨⟨x1, x2, x3, x4, x5, x6⟩, ⟨g1, g2, g3⟩, ⟨g4, g5, g6⟩, g7, g8⟩, ⟨h3, h4⟩, h5⟩ := h
  have ao : ∀ {ks : List Nat}, 5 ∉ ks → 6 ∉ ks → 7 ∉ ks → ag ks F F1 := fun q1 q2 q3 => by rw [hF1]; exact ag_tr (ag_tr (ag_off F q1 0 p1) (ag_off _ q2 0 p2)) (ag_off _ q3 0 p3)
  have am : ∀ {ks : List Nat}, 5 ∉ ks → 6 ∉ ks → 7 ∉ ks → ag ks FM (u2 (u2 (u2 FM 5 0 p1) 6 0 p2) 7 0 p3) := fun q1 q2 q3 => ag_tr (ag_tr (ag_off FM q1 0 p1) (ag_off _ q2 0 p2)) (ag_off _ q3 0 p3)
  have n1 : wN F1 := wN_c (ao (by decide) (by decide) (by decide)) x1
  have s1 : wS F1 := wS_c (ao (by decide) (by decide) (by decide)) x4
  have hr := n1.hr
  have a0 : ag [0, 4, 16] F F1 := ao (by decide) (by decide) (by decide)
  obtain ⟨v, hv⟩ : ∃ v, v = gX6_seaAt F1 G (F1 0 0) := ⟨_, rfl⟩
  rw [← hv]
  have gO : ∀ {k}, k ≠ 69 → u2 G 69 0 v k = G k := fun hk => u2_other G hk 0 v
  refine ⟨⟨⟨⟨n1, wB_c (ao (by decide) (by decide) (by decide)) (gO (by decide)) (fun i _ => by rw [gO (by decide : 14 ≠ 69)]) x2, ?_, s1, ?_, ?_⟩, ⟨wG_c (ao (by decide) (by decide) (by decide)) g1, wP_c (ao (by decide) (by decide) (by decide)) g2, wD_c (ao (by decide) (by decide) (by decide)) (gO (by decide)) g3⟩, ⟨wR_c (ao (by decide) (by decide) (by decide)) g4, wC_c (ao (by decide) (by decide) (by decide)) g5, wWk_c (ao (by decide) (by decide) (by decide)) g6⟩, wM_c (ao (by decide) (by decide) (by decide)) g7, wT_c (a0.at 16 (by decide)) g8⟩, ⟨by rw [hF1]; exact ag_u2 (ag_u2 (ag_u2 h3 5 0 rfl) 6 0 rfl) 7 0 rfl, fun k hk => by rw [u2_other G (fun e => by subst e; revert hk; decide)]; exact h4 k hk⟩, rX_c (ao (by decide) (by decide) (by decide)) (am (by decide) (by decide) (by decide)) (gO (by decide)) rfl h5⟩, sea_ok n1 s1 hr.1 (by omega), a0.at 0 (by decide)⟩
  · have hl := wL_c (F1 := F1) (ao (by decide) (by decide) (by decide)) x3
    refine ⟨hl.1, fun i hi => ?_⟩
    have := hl.2 i hi
    unfold lev at *
    rw [gO (by decide : 14 ≠ 69)]
    exact this
  · unfold wO
    rw [a0.at 4 (by decide), hF1]
    rw [u2_other _ (by decide : 5 ≠ 7), u2_other _ (by decide : 5 ≠ 6), u2_at, u2_other _ (by decide : 6 ≠ 7), u2_at, u2_at]
    exact ⟨⟨a1, a2⟩, ⟨b1, b2⟩, ⟨c1, c2⟩, x5.2.2.2⟩
  · obtain ⟨-, z2, z3, z4⟩ := x6
    have e1 : cn F1 1 = cn F 1 := cn_of (ao (ks := [1]) (by decide) (by decide) (by decide) 1 (by decide))
    refine ⟨?_, ?_, ?_, ?_⟩
    · rw [u2_at, hv]; exact sea_G n1 _ _ _
    · rw [gO (by decide : 58 ≠ 69)]; exact z2
    · rw [gO (by decide : 57 ≠ 69)]; exact z3
    · rw [gO (by decide : 57 ≠ 69), e1]; exact z4
theorem fm_setOutside {n : Nat} {F F2 : jF} {G G2 : jG} {M FM : jF} {GM : jG} (h : Iv n F G F2 G2 M FM GM) (hn : n < 512) (p1 p2 p3 : Int32) : okX11_setOutside F G M p1 p2 p3 ∧ rV n F G F2 G2 M FM GM (wk 2 9 9) [2] (gX11_setOutside F G M p1 p2 p3) (gX12_setOutside FM GM p1 p2 p3) := by
  have hr0 := Iv_rr h hn 0
  have hrb := (Iv_b h).1
  have hN := hrb.1.1.1
  have hR := hrb.2.1.1
  have hG := hrb.2.1.2
  rcases nr_c p1 (-99) 99 with ⟨a1_0, a2_0, a3_0, a4_0⟩ | ⟨a1_0, a2_0⟩
  · skip
    rcases nr_c p2 0 400 with ⟨a1_1, a2_1, a3_1, a4_1⟩ | ⟨a1_1, a2_1⟩
    · skip
      rcases nr_c p3 (-9999) 99999 with ⟨a1_2, a2_2, a3_2, a4_2⟩ | ⟨a1_2, a2_2⟩
      · skip
        obtain ⟨F1, hF1⟩ : ∃ F1, F1 = u2 (u2 (u2 F 5 0 p1) 6 0 p2) 7 0 p3 := ⟨_, rfl⟩
        obtain ⟨hrr, hsk, h00⟩ := RR_out hr0 a3_0 a4_0 a3_1 a4_1 a3_2 a4_2 hF1
        have h0 := cn_of h00
        have hl : gX6_lay F G p1 p2 p3 = (F1, G) := by unfold gX6_lay; rw [bvd, bvd, bvd, hF1]
        have hs : gX10_layOutside F G p1 p2 p3 = (0, (F1, u2 G 69 0 (gX6_seaAt F1 G (F1 0 0)))) := by unfold gX10_layOutside; rw [hl, bsd, bvd, bvd]
        have hso : okX10_layOutside F G p1 p2 p3 := by unfold okX10_layOutside; rw [hl, bsd]; exact hsk
        obtain ⟨M1, m1, m2, m3, m4⟩ := Iv_act (F1 := F1) (G1 := u2 G 69 0 (gX6_seaAt F1 G (F1 0 0))) h hn 7 p1 p2 p3 0 0 (ov_7 hso) (by rw [ac_7, hs]) (by rw [h0]; exact hrr)
        refine ⟨?_, Or.inl ⟨_, _, M1, _, _, ?_, ?_, ?_, m4⟩⟩
        · unfold okX11_setOutside
          rw [bvd]; intro _
          rw [bvd]; intro _
          rw [bvd]; intro _
          refine ⟨(m1 _).2, ?_⟩
          rw [(m1 _).1, brd]; exact m3
        · unfold gX11_setOutside
          rw [bvd, a1_0, if_pos rfl, bvd, a1_1, if_pos rfl, bvd, a1_2, if_pos rfl, (m1 _).1, brd, brd]
          show (0, ((gX5_act F G (M1 82) (nI (6 * (M 80 0).toNatClampNeg))).2, M1)) = _
          rw [m2, ac_7, hs]
        · unfold gX12_setOutside
          simp only [bvd, a2_0, a2_1, a2_2, u2_at, if_false, if_true, reduceIte]
          rfl
        · simp only [u2_other _ (show 60 ≠ 7 by decide), u2_other _ (show 60 ≠ 6 by decide), u2_other _ (show 60 ≠ 5 by decide), u2_at]
      · refine ⟨?_, Or.inr ⟨2, 1, by decide, ?_, ?_, rfl⟩⟩
        · unfold okX11_setOutside
          rw [bvd]; intro _
          rw [bvd]; intro _
          rw [bvd]; intro e; rw [a1_2] at e; exact absurd e (by decide)
        · unfold gX11_setOutside
          rw [bvd, a1_0, if_pos rfl, bvd, a1_1, if_pos rfl, bvd, a1_2, if_neg (by decide)]
        · unfold gX12_setOutside
          simp only [bvd, a2_0, a2_1, a2_2, u2_at, if_false, if_true, reduceIte]
          first | rfl | skip
    · refine ⟨?_, Or.inr ⟨2, 1, by decide, ?_, ?_, rfl⟩⟩
      · unfold okX11_setOutside
        rw [bvd]; intro _
        rw [bvd]; intro e; rw [a1_1] at e; exact absurd e (by decide)
      · unfold gX11_setOutside
        rw [bvd, a1_0, if_pos rfl, bvd, a1_1, if_neg (by decide)]
      · unfold gX12_setOutside
        simp only [bvd, a2_0, a2_1, u2_at, if_false, if_true, reduceIte]
        first | rfl | skip
  · refine ⟨?_, Or.inr ⟨2, 1, by decide, ?_, ?_, rfl⟩⟩
    · unfold okX11_setOutside
      rw [bvd]; intro e; rw [a1_0] at e; exact absurd e (by decide)
    · unfold gX11_setOutside
      rw [bvd, a1_0, if_neg (by decide)]
    · unfold gX12_setOutside
      simp only [bvd, a2_0, u2_at, if_false, if_true, reduceIte]
      first | rfl | skip
theorem rm_c {F : jF} {k l : Nat} {lim : Int32} (hl : lim = nI l) (hl2 : l < 100) (h : F k 0 = nI (cn F k) ∧ cn F k ≤ l) : (gX11_needRoom (F k 0) lim = 0 ∧ ¬ nI (cn F k) = lim ∧ cn F k < l) ∨ (gX11_needRoom (F k 0) lim = 3 ∧ nI (cn F k) = lim) := by
  unfold gX11_needRoom
  rw [h.1, hl]
  by_cases c : cn F k < l
  · rw [if_pos (nI_lt c (by omega)), nI_eq (by omega) (by omega)]
    exact Or.inl ⟨rfl, by omega, c⟩
  · have e : cn F k = l := by omega
    rw [if_neg (nI_nlt (by omega) (by omega)), e]
    exact Or.inr ⟨rfl, rfl⟩
theorem RR_rain {b : Int} {c : Nat} {F FM : jF} {G GM : jG} (h : RR b c F G FM GM) {j : Nat} (hj : j < cn F 8) (h44 : cn F 44 < 12) {p2 p3 p4 : Int32} (a1 : 0 ≤ p2.toInt) (a2 : p2.toInt ≤ 9999) (b1 : 1 ≤ p3.toInt) (b2 : p3.toInt ≤ 99) (c1 : 1 ≤ p4.toInt) (c2 : p4.toInt ≤ 9999) {F1 : jF} (hF1 : F1 = u2 (u2 (u2 (u2 (u2 F 45 (cn F 44) (nI j)) 46 (cn F 44) p2) 47 (cn F 44) p3) 48 (cn F 44) p4) 44 0 (nI (cn F 44 + 1))) : RR b c F1 G (u2 (u2 (u2 (u2 (u2 FM 45 (cn F 44) (nI j)) 46 (cn F 44) p2) 47 (cn F 44) p3) 48 (cn F 44) p4) 44 0 (nI (cn F 44 + 1))) GM ∧ F1 0 = F 0 := by
  obtain ⟨⟨⟨x1, x2, x3, x4, x5, x6⟩, ⟨g1, g2, g3⟩, ⟨g4, g5, g6⟩, g7, g8⟩, ⟨h3, h4⟩, h5⟩ := h
  obtain ⟨n, hnd⟩ : ∃ n, n = cn F 44 := ⟨_, rfl⟩
  rw [← hnd]
  rw [← hnd] at hF1
  have ao : ∀ {ks : List Nat}, 44 ∉ ks → 45 ∉ ks → 46 ∉ ks → 47 ∉ ks → 48 ∉ ks → ag ks F F1 := fun q0 q1 q2 q3 q4 => by rw [hF1]; exact ag_tr (ag_tr (ag_tr (ag_tr (ag_off F q1 n _) (ag_off _ q2 n _)) (ag_off _ q3 n _)) (ag_off _ q4 n _)) (ag_off _ q0 0 _)
  have am : ∀ {ks : List Nat}, 44 ∉ ks → 45 ∉ ks → 46 ∉ ks → 47 ∉ ks → 48 ∉ ks → ag ks FM (u2 (u2 (u2 (u2 (u2 FM 45 n (nI j)) 46 n p2) 47 n p3) 48 n p4) 44 0 (nI (n + 1))) := fun q0 q1 q2 q3 q4 => ag_tr (ag_tr (ag_tr (ag_tr (ag_off FM q1 n _) (ag_off _ q2 n _)) (ag_off _ q3 n _)) (ag_off _ q4 n _)) (ag_off _ q0 0 _)
  have a0 : ag [0, 1, 8, 16, 17, 23, 32, 40] F F1 := ao (by decide) (by decide) (by decide) (by decide) (by decide)
  have e44 : F1 44 0 = nI (n + 1) := by rw [hF1, u2_at]
  have c44 : cn F1 44 = n + 1 := by unfold cn; rw [e44, nI_clamp (by omega)]
  have n1 : wN F1 := by
    obtain ⟨⟨y1, y2, y3, y4⟩, y5, y6, y7, y8⟩ := x1
    unfold wN
    rw [c44, cn_of (a0.at 8 (by decide)), cn_of (a0.at 17 (by decide)), cn_of (a0.at 23 (by decide)), cn_of (a0.at 32 (by decide)), cn_of (a0.at 40 (by decide)), cn_of (a0.at 1 (by decide)), cn_of (a0.at 0 (by decide)), a0.at 8 (by decide), a0.at 17 (by decide), a0.at 23 (by decide), a0.at 32 (by decide), a0.at 40 (by decide), a0.at 1 (by decide), a0.at 0 (by decide), e44]
    exact ⟨⟨y1, y2, y3, y4⟩, y5, ⟨rfl, by omega⟩, y7, y8⟩
  refine ⟨⟨⟨⟨n1, wB_c (ao (by decide) (by decide) (by decide) (by decide) (by decide)) rfl (fun _ _ => rfl) x2, wL_c (ao (by decide) (by decide) (by decide) (by decide) (by decide)) x3, wS_c (ao (by decide) (by decide) (by decide) (by decide) (by decide)) x4, wO_c (ao (by decide) (by decide) (by decide) (by decide) (by decide)) x5, wZ_c x1 n1 (ao (by decide) (by decide) (by decide) (by decide) (by decide)) (ag_rf _ G) x6⟩, ⟨wG_c (ao (by decide) (by decide) (by decide) (by decide) (by decide)) g1, wP_c (ao (by decide) (by decide) (by decide) (by decide) (by decide)) g2, wD_c (ao (by decide) (by decide) (by decide) (by decide) (by decide)) rfl g3⟩, ⟨fun i hi => ?_, wC_c (ao (by decide) (by decide) (by decide) (by decide) (by decide)) g5, wWk_c (ao (by decide) (by decide) (by decide) (by decide) (by decide)) g6⟩, wM_c (ao (by decide) (by decide) (by decide) (by decide) (by decide)) g7, wT_c (a0.at 16 (by decide)) g8⟩, ⟨by rw [hF1]; exact ag_u2 (ag_u2 (ag_u2 (ag_u2 (ag_u2 h3 45 n rfl) 46 n rfl) 47 n rfl) 48 n rfl) 44 0 rfl, h4⟩, rX_c (ao (by decide) (by decide) (by decide) (by decide) (by decide)) (am (by decide) (by decide) (by decide) (by decide) (by decide)) rfl rfl h5⟩, a0.at 0 (by decide)⟩
  rw [c44] at hi
  have e45 : F1 45 i = if i = n then nI j else F 45 i := by rw [hF1, u2_other _ (by decide : 45 ≠ 44), u2_other _ (by decide : 45 ≠ 48), u2_other _ (by decide : 45 ≠ 47), u2_other _ (by decide : 45 ≠ 46), u2_same]
  have e46 : F1 46 i = if i = n then p2 else F 46 i := by rw [hF1, u2_other _ (by decide : 46 ≠ 44), u2_other _ (by decide : 46 ≠ 48), u2_other _ (by decide : 46 ≠ 47), u2_same, u2_other _ (by decide : 46 ≠ 45)]
  have e47 : F1 47 i = if i = n then p3 else F 47 i := by rw [hF1, u2_other _ (by decide : 47 ≠ 44), u2_other _ (by decide : 47 ≠ 48), u2_same, u2_other _ (by decide : 47 ≠ 46), u2_other _ (by decide : 47 ≠ 45)]
  have e48 : F1 48 i = if i = n then p4 else F 48 i := by rw [hF1, u2_other _ (by decide : 48 ≠ 44), u2_same, u2_other _ (by decide : 48 ≠ 47), u2_other _ (by decide : 48 ≠ 46), u2_other _ (by decide : 48 ≠ 45)]
  rw [e45, e46, e47, e48, cn_of (a0.at 8 (by decide))]
  by_cases e : i = n
  · rw [if_pos e, if_pos e, if_pos e, if_pos e]
    exact ⟨⟨j, hj, rfl⟩, ⟨a1, a2⟩, ⟨b1, b2⟩, ⟨c1, c2⟩⟩
  · rw [if_neg e, if_neg e, if_neg e, if_neg e]
    exact g4 i (by omega)
theorem fm_rain {n : Nat} {F F2 : jF} {G G2 : jG} {M FM : jF} {GM : jG} (h : Iv n F G F2 G2 M FM GM) (hn : n < 512) (p1 p2 p3 p4 : Int32) : okX11_rain F G M p1 p2 p3 p4 ∧ okX12_rain FM GM p1 p2 p3 p4 ∧ rM n F G F2 G2 M FM GM (fun x : Int32 => x.toInt64) (fun x : Int32 => x.toInt64) (wk 1 2 3) [1, 2, 3] (gX11_rain F G M p1 p2 p3 p4) (gX12_rain FM GM p1 p2 p3 p4) := by
  have hr0 := Iv_rr h hn 0
  have hrb := (Iv_b h).1
  have hN := hrb.1.1.1
  have hR := hrb.2.1.1
  have hG := hrb.2.1.2
  rcases bn_c G GM hN hR p1 with ⟨j0, hj0, hj8_0, e1_0, e2_0, e3_0, e4_0⟩ | ⟨e2_0, e3_0, e4_0⟩
  · skip
    rcases nr_c p2 0 9999 with ⟨a1_1, a2_1, a3_1, a4_1⟩ | ⟨a1_1, a2_1⟩
    · skip
      rcases nr_c p3 1 99 with ⟨a1_2, a2_2, a3_2, a4_2⟩ | ⟨a1_2, a2_2⟩
      · skip
        rcases nr_c p4 1 9999 with ⟨a1_3, a2_3, a3_3, a4_3⟩ | ⟨a1_3, a2_3⟩
        · skip
          have e44 : FM 44 0 = nI (cn F 44) := by rw [hR.at 44 (by decide)]; exact (hN.2.2.1).1
          rcases rm_c (F := F) (k := 44) (lim := 12) (l := 12) rfl (by omega) hN.2.2.1 with ⟨a1_4, a2_4, a3_4⟩ | ⟨a1_4, a2_4⟩
          · skip
            obtain ⟨F1, hF1⟩ : ∃ F1, F1 = u2 (u2 (u2 (u2 (u2 F 45 (cn F 44) (nI j0)) 46 (cn F 44) p2) 47 (cn F 44) p3) 48 (cn F 44) p4) 44 0 (nI (cn F 44 + 1)) := ⟨_, rfl⟩
            obtain ⟨hrr, h00⟩ := RR_rain hr0 hj0 a3_4 a3_1 a4_1 a3_2 a4_2 a3_3 a4_3 hF1
            have h0 := cn_of h00
            have hs : gX10_tellRain F G p1 p2 p3 p4 = (F 44 0 + 1, (F1, G)) := by unfold gX10_tellRain; rw [hF1, e1_0, u2_cm _ (by decide : 48 ≠ 45), u2_cm _ (by decide : 47 ≠ 45), u2_cm _ (by decide : 46 ≠ 45), hN.2.2.1.1, nI_1]
            obtain ⟨M1, m1, m2, m3, m4⟩ := Iv_act (F1 := F1) (G1 := G) h hn 9 p1 p2 p3 p4 0 (ov_9 ⟨lK_of hN hrb.1.2.2.1.2.2, hN.2.2.1.1, a3_4⟩) (by rw [ac_9, hs]) (by rw [h0]; exact hrr)
            have hv : vp_in (nI (cn F 44)) 12 := nI_vin a3_4 (by omega)
            have e4x : gX12_isBasin FM GM (nI j0) = 1 := by rw [← e1_0]; exact e4_0
            refine ⟨?_, ?_, Or.inl ⟨(F 44 0 + 1), _, _, M1, (nI (cn F 44 + 1)), _, _, ?_, ?_, ?_, ?_, m4⟩⟩
            · unfold okX11_rain
              refine ⟨nb_ok _ _ _, ?_⟩
              rw [e2_0, om_s]
              rw [bvd]; intro _
              rw [bvd]; intro _
              rw [bvd]; intro _
              rw [bvd]; intro _
              refine ⟨(m1 _).2, ?_⟩
              rw [(m1 _).1, brd]; exact m3
            · unfold okX12_rain
              refine ⟨ib_ok _ _ _, ?_⟩
              simp only [bvd, e4_0, a2_1, a2_2, a2_3, e44, a2_4, u2_at, u2_other _ (show 44 ≠ 60 by decide), u2_other _ (show 44 ≠ 45 by decide), u2_other _ (show 44 ≠ 46 by decide), u2_other _ (show 44 ≠ 47 by decide), if_false, if_true, reduceIte]
              first | exact ⟨fun _ => ⟨hv, hv, hv, hv⟩, fun _ => trivial⟩ | exact ⟨hv, hv, hv, hv⟩ | skip
            · unfold gX11_rain
              rw [e2_0, om_s, bvd, a1_1, if_pos rfl, bvd, a1_2, if_pos rfl, bvd, a1_3, if_pos rfl, bvd, a1_4, if_pos rfl, (m1 _).1, brd, brd]
              show (0, (Int64.toInt32 (gX5_act F G (M1 82) (nI (6 * (M 80 0).toNatClampNeg))).1, ((gX5_act F G (M1 82) (nI (6 * (M 80 0).toNatClampNeg))).2, M1))) = _
              rw [m2, ac_9, hs, ti32]
            · unfold gX12_rain
              simp only [bvd, e4_0, a2_1, a2_2, a2_3, e44, a2_4, u2_other _ (show 44 ≠ 60 by decide), u2_at, u2_other _ (show 44 ≠ 45 by decide), u2_other _ (show 44 ≠ 46 by decide), u2_other _ (show 44 ≠ 47 by decide), u2_other _ (show 44 ≠ 48 by decide), if_false, if_true, reduceIte, nI_clamp (show cn F 44 < 2 ^ 31 by omega), nI_1, e1_0, e4x]
              rfl
            · simp only [u2_other _ (show 60 ≠ 44 by decide), u2_other _ (show 60 ≠ 45 by decide), u2_other _ (show 60 ≠ 46 by decide), u2_other _ (show 60 ≠ 47 by decide), u2_other _ (show 60 ≠ 48 by decide), u2_at]
            · (show (F 44 0 + 1).toInt64 = _; rw [hN.2.2.1.1, nI_1])
          · refine ⟨?_, ?_, Or.inr ⟨3, 0, 0, 3, by decide, ?_, ?_, rfl⟩⟩
            · unfold okX11_rain
              refine ⟨nb_ok _ _ _, ?_⟩
              rw [e2_0, om_s]
              rw [bvd]; intro _
              rw [bvd]; intro _
              rw [bvd]; intro _
              rw [bvd]; intro e; rw [a1_4] at e; exact absurd e (by decide)
            · unfold okX12_rain
              refine ⟨ib_ok _ _ _, ?_⟩
              simp only [bvd, e4_0, a2_1, a2_2, a2_3, e44, a2_4, u2_other _ (show 44 ≠ 60 by decide), u2_at, if_false, if_true, reduceIte]
              first | exact ⟨fun h => absurd h (by decide), fun _ => trivial⟩ | exact fun h => absurd h (by decide) | exact ⟨⟨fun _ => trivial, fun _ => ib_ok _ _ _⟩, fun h => absurd h (by decide), fun _ => trivial⟩ | exact ⟨fun h => absurd h (by decide), fun _ => ⟨fun h => absurd h (by decide), fun _ => trivial⟩⟩ | exact ⟨fun _ => ⟨fun h => absurd h (by decide), fun _ => trivial⟩, fun h => absurd rfl h⟩ | exact ⟨fun _ => ⟨fun h => absurd h (by decide), fun _ => trivial⟩, fun h => absurd trivial h⟩ | skip
            · unfold gX11_rain
              rw [e2_0, om_s, bvd, a1_1, if_pos rfl, bvd, a1_2, if_pos rfl, bvd, a1_3, if_pos rfl, bvd, a1_4, if_neg (by decide)]
            · unfold gX12_rain
              simp only [bvd, e4_0, a2_1, a2_2, a2_3, e44, a2_4, u2_other _ (show 44 ≠ 60 by decide), u2_at, if_false, if_true, reduceIte]
              first | rfl | skip
        · refine ⟨?_, ?_, Or.inr ⟨2, 0, 0, 2, by decide, ?_, ?_, rfl⟩⟩
          · unfold okX11_rain
            refine ⟨nb_ok _ _ _, ?_⟩
            rw [e2_0, om_s]
            rw [bvd]; intro _
            rw [bvd]; intro _
            rw [bvd]; intro e; rw [a1_3] at e; exact absurd e (by decide)
          · unfold okX12_rain
            refine ⟨ib_ok _ _ _, ?_⟩
            simp only [bvd, e4_0, a2_1, a2_2, a2_3, u2_at, if_false, if_true, reduceIte]
            first | exact ⟨fun h => absurd h (by decide), fun _ => trivial⟩ | exact fun h => absurd h (by decide) | exact ⟨⟨fun _ => trivial, fun _ => ib_ok _ _ _⟩, fun h => absurd h (by decide), fun _ => trivial⟩ | exact ⟨fun h => absurd h (by decide), fun _ => ⟨fun h => absurd h (by decide), fun _ => trivial⟩⟩ | exact ⟨fun _ => ⟨fun h => absurd h (by decide), fun _ => trivial⟩, fun h => absurd rfl h⟩ | exact ⟨fun _ => ⟨fun h => absurd h (by decide), fun _ => trivial⟩, fun h => absurd trivial h⟩ | skip
          · unfold gX11_rain
            rw [e2_0, om_s, bvd, a1_1, if_pos rfl, bvd, a1_2, if_pos rfl, bvd, a1_3, if_neg (by decide)]
          · unfold gX12_rain
            simp only [bvd, e4_0, a2_1, a2_2, a2_3, u2_at, if_false, if_true, reduceIte]
            first | rfl | skip
      · refine ⟨?_, ?_, Or.inr ⟨2, 0, 0, 2, by decide, ?_, ?_, rfl⟩⟩
        · unfold okX11_rain
          refine ⟨nb_ok _ _ _, ?_⟩
          rw [e2_0, om_s]
          rw [bvd]; intro _
          rw [bvd]; intro e; rw [a1_2] at e; exact absurd e (by decide)
        · unfold okX12_rain
          refine ⟨ib_ok _ _ _, ?_⟩
          simp only [bvd, e4_0, a2_1, a2_2, u2_at, if_false, if_true, reduceIte]
          first | exact ⟨fun h => absurd h (by decide), fun _ => trivial⟩ | exact fun h => absurd h (by decide) | exact ⟨⟨fun _ => trivial, fun _ => ib_ok _ _ _⟩, fun h => absurd h (by decide), fun _ => trivial⟩ | exact ⟨fun h => absurd h (by decide), fun _ => ⟨fun h => absurd h (by decide), fun _ => trivial⟩⟩ | exact ⟨fun _ => ⟨fun h => absurd h (by decide), fun _ => trivial⟩, fun h => absurd rfl h⟩ | exact ⟨fun _ => ⟨fun h => absurd h (by decide), fun _ => trivial⟩, fun h => absurd trivial h⟩ | skip
        · unfold gX11_rain
          rw [e2_0, om_s, bvd, a1_1, if_pos rfl, bvd, a1_2, if_neg (by decide)]
        · unfold gX12_rain
          simp only [bvd, e4_0, a2_1, a2_2, u2_at, if_false, if_true, reduceIte]
          first | rfl | skip
    · refine ⟨?_, ?_, Or.inr ⟨2, 0, 0, 2, by decide, ?_, ?_, rfl⟩⟩
      · unfold okX11_rain
        refine ⟨nb_ok _ _ _, ?_⟩
        rw [e2_0, om_s]
        rw [bvd]; intro e; rw [a1_1] at e; exact absurd e (by decide)
      · unfold okX12_rain
        refine ⟨ib_ok _ _ _, ?_⟩
        simp only [bvd, e4_0, a2_1, u2_at, if_false, if_true, reduceIte]
        first | exact ⟨fun h => absurd h (by decide), fun _ => trivial⟩ | exact fun h => absurd h (by decide) | exact ⟨⟨fun _ => trivial, fun _ => ib_ok _ _ _⟩, fun h => absurd h (by decide), fun _ => trivial⟩ | exact ⟨fun h => absurd h (by decide), fun _ => ⟨fun h => absurd h (by decide), fun _ => trivial⟩⟩ | exact ⟨fun _ => ⟨fun h => absurd h (by decide), fun _ => trivial⟩, fun h => absurd rfl h⟩ | exact ⟨fun _ => ⟨fun h => absurd h (by decide), fun _ => trivial⟩, fun h => absurd trivial h⟩ | skip
      · unfold gX11_rain
        rw [e2_0, om_s, bvd, a1_1, if_neg (by decide)]
      · unfold gX12_rain
        simp only [bvd, e4_0, a2_1, u2_at, if_false, if_true, reduceIte]
        first | rfl | skip
  · refine ⟨?_, ?_, Or.inr ⟨1, 0, 0, 1, by decide, ?_, ?_, rfl⟩⟩
    · unfold okX11_rain
      refine ⟨nb_ok _ _ _, ?_⟩
      rw [e2_0, om_n]; trivial
    · unfold okX12_rain
      refine ⟨ib_ok _ _ _, ?_⟩
      simp only [bvd, e4_0, u2_at, if_false, if_true, reduceIte]
      first | exact ⟨fun h => absurd h (by decide), fun _ => trivial⟩ | exact fun h => absurd h (by decide) | exact ⟨⟨fun _ => trivial, fun _ => ib_ok _ _ _⟩, fun h => absurd h (by decide), fun _ => trivial⟩ | exact ⟨fun h => absurd h (by decide), fun _ => ⟨fun h => absurd h (by decide), fun _ => trivial⟩⟩ | exact ⟨fun _ => ⟨fun h => absurd h (by decide), fun _ => trivial⟩, fun h => absurd rfl h⟩ | exact ⟨fun _ => ⟨fun h => absurd h (by decide), fun _ => trivial⟩, fun h => absurd trivial h⟩ | skip
    · unfold gX11_rain
      rw [e2_0, om_n]
    · unfold gX12_rain
      simp only [bvd, e4_0, u2_at, if_false, if_true, reduceIte]
      first | rfl | skip
