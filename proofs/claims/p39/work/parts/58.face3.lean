-- setLand, pour, setSeed
def rV (n : Nat) (F : jF) (G : jG) (F2 : jF) (G2 : jG) (M FM : jF) (GM : jG) (w : Nat → Int32) (codes : List Nat) (gx : Nat × (jS × jF)) (gm : jS) : Prop := (∃ F1 G1 M1 FM1 GM1, gx = (0, ((F1, G1), M1)) ∧ gm = (FM1, GM1) ∧ FM1 60 0 = 0 ∧ Iv (n + 1) F1 G1 F2 G2 M1 FM1 GM1) ∨ ∃ k v, k ∈ codes ∧ gx = (k, ((F, G), M)) ∧ gm = (u2 FM 60 0 v, GM) ∧ v = w k
theorem RR_c {b : Int} {c : Nat} {F FM : jF} {G GM : jG} (h : RR b c F G FM GM) (v : Int32) : RR b (c + 1) F G (u2 FM 60 0 v) GM := by
  obtain ⟨⟨hE, ⟨g1, g2, g3⟩, ⟨g4, g5, g6⟩, g7, g8⟩, ⟨h3, h4⟩, h5⟩ := h
  refine ⟨⟨hE, ⟨g1, fun i => ?_, g3⟩, ⟨g4, fun i hi => ?_, g6⟩, ?_, g8⟩, ⟨ag_tr h3 (ag_off FM (by decide) 0 v), h4⟩, rX_c (ag_rf _ F) (ag_off FM (by decide) 0 v) rfl rfl h5⟩
  · obtain ⟨w1, w2, w3, w4⟩ := g2 i
    exact ⟨w1, w2, ⟨w3.1, by have := w3.2; omega⟩, w4⟩
  · obtain ⟨w1, w2, w3⟩ := g5 i hi
    exact ⟨w1, ⟨w2.1, by have := w2.2; omega⟩, w3⟩
  · obtain ⟨w1, w2⟩ := g7
    exact ⟨⟨w1.1, by have := w1.2; omega⟩, w2⟩
theorem RR_land {b : Int} {c : Nat} {F FM : jF} {G GM : jG} (h : RR b c F G FM GM) {j : Nat} (hj : j < cn F 8) {p2 p3 p4 : Int32} (a1 : 0 ≤ p2.toInt) (a2 : p2.toInt ≤ 20) (b1 : 0 ≤ p3.toInt) (b2 : p3.toInt ≤ 9999) (c1 : 0 ≤ p4.toInt) (c2 : p4.toInt ≤ 99) : RR b c (u2 (u2 (u2 F 11 j p2) 12 j p3) 13 j p4) G (u2 (u2 (u2 FM 11 j p2) 12 j p3) 13 j p4) GM := by
  obtain ⟨⟨⟨x1, x2, x3, x4, x5, x6⟩, ⟨g1, g2, g3⟩, ⟨g4, g5, g6⟩, g7, g8⟩, ⟨h3, h4⟩, h5⟩ := h
  obtain ⟨F1, hF1⟩ : ∃ F1, F1 = u2 (u2 (u2 F 11 j p2) 12 j p3) 13 j p4 := ⟨_, rfl⟩
  have ao : ∀ {ks : List Nat}, 11 ∉ ks → 12 ∉ ks → 13 ∉ ks → ag ks F F1 := fun c1 c2 c3 => by rw [hF1]; exact ag_tr (ag_tr (ag_off F c1 j p2) (ag_off _ c2 j p3)) (ag_off _ c3 j p4)
  have am : ∀ {ks : List Nat}, 11 ∉ ks → 12 ∉ ks → 13 ∉ ks → ag ks FM (u2 (u2 (u2 FM 11 j p2) 12 j p3) 13 j p4) := fun c1 c2 c3 => ag_tr (ag_tr (ag_off FM c1 j p2) (ag_off _ c2 j p3)) (ag_off _ c3 j p4)
  have n1 : wN F1 := wN_c (ao (by decide) (by decide) (by decide)) x1
  have a8 : ag [1, 8, 9, 10] F F1 := ao (by decide) (by decide) (by decide)
  rw [← hF1]
  refine ⟨⟨⟨n1, fun i => ?_, wL_c (ao (by decide) (by decide) (by decide)) x3, wS_c (ao (by decide) (by decide) (by decide)) x4, wO_c (ao (by decide) (by decide) (by decide)) x5, wZ_c x1 n1 (ao (by decide) (by decide) (by decide)) (ag_rf _ G) x6⟩, ⟨wG_c (ao (by decide) (by decide) (by decide)) g1, wP_c (ao (by decide) (by decide) (by decide)) g2, wD_c (ao (by decide) (by decide) (by decide)) rfl g3⟩, ⟨wR_c (ao (by decide) (by decide) (by decide)) g4, wC_c (ao (by decide) (by decide) (by decide)) g5, wWk_c (ao (by decide) (by decide) (by decide)) g6⟩, wM_c (ao (by decide) (by decide) (by decide)) g7, wT_c (ao (ks := [16]) (by decide) (by decide) (by decide) 16 (by decide)) g8⟩, ⟨by rw [hF1]; exact ag_u2 (ag_u2 (ag_u2 h3 11 j rfl) 12 j rfl) 13 j rfl, h4⟩, rX_c (ao (by decide) (by decide) (by decide)) (am (by decide) (by decide) (by decide)) rfl rfl h5⟩
  obtain ⟨w1, w2⟩ := x2 i
  have e11 : F1 11 i = if i = j then p2 else F 11 i := by rw [hF1, u2_other _ (by decide : 11 ≠ 13), u2_other _ (by decide : 11 ≠ 12), u2_same]
  have e12 : F1 12 i = if i = j then p3 else F 12 i := by rw [hF1, u2_other _ (by decide : 12 ≠ 13), u2_same, u2_other _ (by decide : 12 ≠ 11)]
  have e13 : F1 13 i = if i = j then p4 else F 13 i := by rw [hF1, u2_same, u2_other _ (by decide : 13 ≠ 12), u2_other _ (by decide : 13 ≠ 11)]
  rw [cn_of (a8.at 8 (by decide)), cn_of (a8.at 1 (by decide)), a8.at 9 (by decide), a8.at 10 (by decide), e11, e12, e13]
  refine ⟨fun hi => ?_, fun hi => ?_⟩
  · obtain ⟨v1, v2, v3, v4, v5⟩ := w1 hi
    by_cases e : i = j
    · rw [if_pos e, if_pos e, if_pos e]
      exact ⟨v1, v2, ⟨a1, a2⟩, ⟨b1, b2⟩, ⟨c1, c2⟩⟩
    · rw [if_neg e, if_neg e, if_neg e]
      exact ⟨v1, v2, v3, v4, v5⟩
  · rw [if_neg (by omega), if_neg (by omega)]
    exact w2 hi
theorem lay_e {F : jF} (G : jG) {j : Nat} (hn : cn F 8 ≤ 8) (hj : j < cn F 8) (p2 p3 p4 : Int32) : gX10_layOut F G (nI j) p2 p3 p4 = (0, (u2 (u2 (u2 F 11 j p2) 12 j p3) 13 j p4, G)) ∧ okX10_layOut F G (nI j) p2 p3 p4 := by
  constructor
  · unfold gX10_layOut
    rw [ba_in G hn hj]
    simp only [bvd, om_s]
  · unfold okX10_layOut
    refine ⟨ba_ok _, ?_⟩
    rw [ba_in G hn hj, bvd, om_s, bvd, bvd, cn_of (u2_other F (by decide : 8 ≠ 11) j p2), cn_of (show u2 (u2 F 11 j p2) 12 j p3 8 = F 8 by rw [u2_other _ (by decide : 8 ≠ 12), u2_other _ (by decide : 8 ≠ 11)])]
    exact ⟨hj, hj, hj⟩
theorem ib_ok (FM : jF) (GM : jG) (p : Int32) : okX12_isBasin FM GM p := by
  unfold okX12_isBasin
  rw [bvd]
  unfold gX12_in
  split
  · exact Or.inl rfl
  · split
    · exact Or.inl rfl
    · exact Or.inr rfl
theorem nb_ok (F : jF) (G : jG) (p : Int32) : okX11_needBasin F G p := ba_ok p
theorem fm_setLand {n : Nat} {F F2 : jF} {G G2 : jG} {M FM : jF} {GM : jG} (h : Iv n F G F2 G2 M FM GM) (hn : n < 512) (p1 p2 p3 p4 : Int32) : okX11_setLand F G M p1 p2 p3 p4 ∧ okX12_setLand FM GM p1 p2 p3 p4 ∧ rV n F G F2 G2 M FM GM (wk 1 2 9) [1, 2] (gX11_setLand F G M p1 p2 p3 p4) (gX12_setLand FM GM p1 p2 p3 p4) := by
  have hr0 := Iv_rr h hn 0
  have hN := (Iv_b h).1.1.1.1
  have hR := (Iv_b h).1.2.1.1
  have fail : ∀ (k : Nat) (v : Int32), ¬ v = 0 → k ∈ [1, 2] → v = wk 1 2 9 k → gX11_setLand F G M p1 p2 p3 p4 = (k, ((F, G), M)) → gX12_setLand FM GM p1 p2 p3 p4 = (u2 FM 60 0 v, GM) → rV n F G F2 G2 M FM GM (wk 1 2 9) [1, 2] (gX11_setLand F G M p1 p2 p3 p4) (gX12_setLand FM GM p1 p2 p3 p4) := fun k v _ h1 h2 h3 h4 => Or.inr ⟨k, v, h1, h3, h4, h2⟩
  rcases bn_c G GM hN hR p1 with ⟨j, hj, hj8, e1, e2, e3, e4⟩ | ⟨e2, e3, e4⟩
  · rcases nr_c p2 0 20 with ⟨a1, a2, a3, a4⟩ | ⟨a1, a2⟩
    · rcases nr_c p3 0 9999 with ⟨b1, b2, b3, b4⟩ | ⟨b1, b2⟩
      · rcases nr_c p4 0 99 with ⟨c1, c2, c3, c4⟩ | ⟨c1, c2⟩
        · have hl := lay_e G hN.1.1.2 hj p2 p3 p4
          rw [← e1] at hl
          have hrr := RR_land hr0 hj a3 a4 b3 b4 c3 c4
          have h0 : cn (u2 (u2 (u2 F 11 j p2) 12 j p3) 13 j p4) 0 = cn F 0 := cn_of (by rw [u2_other _ (by decide : 0 ≠ 13), u2_other _ (by decide : 0 ≠ 12), u2_other _ (by decide : 0 ≠ 11)])
          obtain ⟨M1, m1, m2, m3, m4⟩ := Iv_act (F1 := u2 (u2 (u2 F 11 j p2) 12 j p3) 13 j p4) (G1 := G) h hn 1 p1 p2 p3 p4 0 (ov_1 hl.2) (by rw [ac_1, hl.1]) (by rw [h0]; exact hrr)
          have hv : vp_in p1 8 := by rw [e1]; exact nI_vin hj8 (by omega)
          have ecl : p1.toNatClampNeg = j := by rw [e1]; exact nI_clamp (by omega)
          refine ⟨?_, ?_, Or.inl ⟨_, _, M1, _, _, ?_, ?_, ?_, m4⟩⟩
          · unfold okX11_setLand
            refine ⟨nb_ok _ _ _, ?_⟩
            rw [e2, om_s, bvd]; intro _; rw [bvd]; intro _; rw [bvd]; intro _
            refine ⟨(m1 _).2, ?_⟩
            rw [(m1 _).1, brd]; exact m3
          · unfold okX12_setLand
            refine ⟨ib_ok _ _ _, ?_⟩
            simp only [bvd, e4, a2, b2, c2, u2_at, if_false, if_true, reduceIte]
            first | exact ⟨fun _ => ⟨hv, hv, hv⟩, fun _ => trivial⟩ | exact ⟨hv, hv, hv⟩ | skip
          · unfold gX11_setLand
            rw [e2, om_s, bvd, a1, if_pos rfl, bvd, b1, if_pos rfl, bvd, c1, if_pos rfl, (m1 _).1, brd, brd]
            show (0, ((gX5_act F G (M1 82) (nI (6 * (M 80 0).toNatClampNeg))).2, M1)) = _
            rw [m2, ac_1, hl.1]
          · unfold gX12_setLand
            simp only [bvd, e4, a2, b2, c2, u2_at, if_false, if_true, reduceIte, ecl]
            rfl
          · simp only [u2_other _ (show 60 ≠ 13 by decide), u2_other _ (show 60 ≠ 12 by decide), u2_other _ (show 60 ≠ 11 by decide), u2_at]
        · refine ⟨?_, ?_, fail 2 2 (by decide) (by decide) rfl ?_ ?_⟩
          · unfold okX11_setLand
            refine ⟨nb_ok _ _ _, ?_⟩
            rw [e2, om_s, bvd]; intro _; rw [bvd]; intro _; rw [bvd]; intro e; rw [c1] at e; exact absurd e (by decide)
          · unfold okX12_setLand
            refine ⟨ib_ok _ _ _, ?_⟩
            simp only [bvd, e4, a2, b2, c2, u2_at, if_false, if_true, reduceIte]
            first | exact ⟨fun h => absurd h (by decide), fun _ => trivial⟩ | skip
          · unfold gX11_setLand
            rw [e2, om_s, bvd, a1, if_pos rfl, bvd, b1, if_pos rfl, bvd, c1, if_neg (by decide)]
          · unfold gX12_setLand
            simp only [bvd, e4, a2, b2, c2, u2_at, if_false, if_true, reduceIte]
            first | rfl | skip
      · refine ⟨?_, ?_, fail 2 2 (by decide) (by decide) rfl ?_ ?_⟩
        · unfold okX11_setLand
          refine ⟨nb_ok _ _ _, ?_⟩
          rw [e2, om_s, bvd]; intro _; rw [bvd]; intro e; rw [b1] at e; exact absurd e (by decide)
        · unfold okX12_setLand
          refine ⟨ib_ok _ _ _, ?_⟩
          simp only [bvd, e4, a2, b2, u2_at, if_false, if_true, reduceIte]
          first | exact ⟨fun h => absurd h (by decide), fun _ => trivial⟩ | skip
        · unfold gX11_setLand
          rw [e2, om_s, bvd, a1, if_pos rfl, bvd, b1, if_neg (by decide)]
        · unfold gX12_setLand
          simp only [bvd, e4, a2, b2, u2_at, if_false, if_true, reduceIte]
          first | rfl | skip
    · refine ⟨?_, ?_, fail 2 2 (by decide) (by decide) rfl ?_ ?_⟩
      · unfold okX11_setLand
        refine ⟨nb_ok _ _ _, ?_⟩
        rw [e2, om_s, bvd]; intro e; rw [a1] at e; exact absurd e (by decide)
      · unfold okX12_setLand
        refine ⟨ib_ok _ _ _, ?_⟩
        simp only [bvd, e4, a2, u2_at, if_false, if_true, reduceIte]
        first | exact ⟨fun h => absurd h (by decide), fun _ => trivial⟩ | skip
      · unfold gX11_setLand
        rw [e2, om_s, bvd, a1, if_neg (by decide)]
      · unfold gX12_setLand
        simp only [bvd, e4, a2, u2_at, if_false, if_true, reduceIte]
        first | rfl | skip
  · refine ⟨?_, ?_, fail 1 1 (by decide) (by decide) rfl ?_ ?_⟩
    · unfold okX11_setLand
      refine ⟨nb_ok _ _ _, ?_⟩
      rw [e2, om_n]; trivial
    · unfold okX12_setLand
      refine ⟨ib_ok _ _ _, ?_⟩
      simp only [bvd, e4, u2_at, if_false, if_true, reduceIte]
      first | exact ⟨fun h => absurd h (by decide), fun _ => trivial⟩ | skip
    · unfold gX11_setLand
      rw [e2, om_n]
    · unfold gX12_setLand
      simp only [bvd, e4, u2_at, if_false, if_true, reduceIte]
      first | rfl | skip
