-- a year's end, the method
theorem n20 : (20 : Int32) = nI 20 := rfl
theorem RR_year {b : Int} {c : Nat} {F FM F4 FM4 : jF} {G GM : jG} (h : RR b c F G FM GM) (hc : c ≤ 600) (hm : (F 62 0).toInt + 9999 ≤ 9999 * (c : Int)) (hy : cn F 1 < 20) (a1 : ∀ k, k ≠ 10 → k ≠ 62 → k ≠ 35 → k ≠ 65 → k ≠ 67 → F4 k = F k) (a10 : ∀ k, F4 10 k = if k < cn F 8 then F 10 k - F 11 k else F 10 k) (a62 : F4 62 0 = F 62 0 + F 3 0) (a5 : wWk F4) (a6 : ∀ k, F4 35 k = cre (wkC F) k (F 35 k)) (a7 : wkC F4 = rmn (wkC F)) (b1 : ∀ k, k ≠ 10 → k ≠ 35 → k ≠ 53 → k ≠ 54 → k ≠ 55 → FM4 k = FM k) (b10 : ∀ k, FM4 10 k = if k < cn F 8 then FM 10 k - FM 11 k else FM 10 k) (b6 : ∀ k, FM4 35 k = cre (wkM FM) k (FM 35 k)) (b7 : wmL FM4 (List.range' 0 (rmn (wkM FM)).length) = rmn (wkM FM)) (b8 : (rmn (wkM FM)).length ≤ 6) {y : Nat} (hyd : y = cn F 1) : RR b c (u2 F4 1 0 (nI (y + 1))) (u2 (u2 G 57 y (G 58 0)) 58 0 (-9223372036854775808)) (u2 (u2 FM4 52 0 (nI (rmn (wkM FM)).length)) 1 0 (nI (y + 1))) (u2 (u2 (u2 GM 2 0 (GM 2 0 + (F 3 0).toInt64)) 57 y (GM 58 0)) 58 0 (-9223372036854775808)) := by
  obtain ⟨⟨⟨x1, x2, x3, x4, x5, x6⟩, ⟨g1, g2, g3⟩, ⟨g4, g5, g6⟩, g7, g8⟩, ⟨h3, h4⟩, ⟨r1, r2, r3, r4, r5, r6⟩⟩ := h
  obtain ⟨L, hL⟩ : ∃ L, L = (rmn (wkM FM)).length := ⟨_, rfl⟩
  rw [← hL] at b7 b8
  rw [← hL]
  obtain ⟨F1, hF1⟩ : ∃ F1, F1 = u2 F4 1 0 (nI (y + 1)) := ⟨_, rfl⟩
  obtain ⟨FM1, hFM1⟩ : ∃ FM1, FM1 = u2 (u2 FM4 52 0 (nI L)) 1 0 (nI (y + 1)) := ⟨_, rfl⟩
  obtain ⟨G1, hG1⟩ : ∃ G1, G1 = u2 (u2 G 57 y (G 58 0)) 58 0 (-9223372036854775808) := ⟨_, rfl⟩
  obtain ⟨GM1, hGM1⟩ : ∃ GM1, GM1 = u2 (u2 (u2 GM 2 0 (GM 2 0 + (F 3 0).toInt64)) 57 y (GM 58 0)) 58 0 (-9223372036854775808) := ⟨_, rfl⟩
  rw [← hF1, ← hFM1, ← hG1, ← hGM1]
  have fo : ∀ k, k ≠ 1 → k ≠ 10 → k ≠ 62 → k ≠ 35 → k ≠ 65 → k ≠ 67 → F1 k = F k := fun k q0 q1 q2 q3 q4 q5 => by rw [hF1, u2_other _ q0, a1 k q1 q2 q3 q4 q5]
  have ao : ∀ {ks : List Nat}, 1 ∉ ks → 10 ∉ ks → 62 ∉ ks → 35 ∉ ks → 65 ∉ ks → 67 ∉ ks → ag ks F F1 := fun q0 q1 q2 q3 q4 q5 k hk => fo k (fun e => q0 (e ▸ hk)) (fun e => q1 (e ▸ hk)) (fun e => q2 (e ▸ hk)) (fun e => q3 (e ▸ hk)) (fun e => q4 (e ▸ hk)) (fun e => q5 (e ▸ hk))
  have mo : ∀ k, k ≠ 1 → k ≠ 52 → k ≠ 10 → k ≠ 35 → k ≠ 53 → k ≠ 54 → k ≠ 55 → FM1 k = FM k := fun k q0 q1 q2 q3 q4 q5 q6 => by rw [hFM1, u2_other _ q0, u2_other _ q1, b1 k q2 q3 q4 q5 q6]
  have gO : ∀ k, k ≠ 57 → k ≠ 58 → G1 k = G k := fun k q0 q1 => by rw [hG1, u2_other _ q1, u2_other _ q0]
  have gmO : ∀ k, k ≠ 2 → k ≠ 57 → k ≠ 58 → GM1 k = GM k := fun k q0 q1 q2 => by rw [hGM1, u2_other _ q2, u2_other _ q1, u2_other _ q0]
  have f1 : F1 1 0 = nI (y + 1) := by rw [hF1, u2_at]
  have c1 : cn F1 1 = y + 1 := by unfold cn; rw [f1, nI_clamp (by omega)]
  have e10 : F1 10 = F4 10 := by rw [hF1, u2_other _ (by decide : 10 ≠ 1)]
  have e35 : F1 35 = F4 35 := by rw [hF1, u2_other _ (by decide : 35 ≠ 1)]
  have e62 : F1 62 0 = F 62 0 + F 3 0 := by rw [hF1, u2_other _ (by decide : 62 ≠ 1), a62]
  have aw : ag [32, 65, 66, 67] F4 F1 := fun k hk => by rw [hF1, u2_other _ (by revert hk; simp; omega)]
  have e8 : cn F1 8 = cn F 8 := cn_of (fo 8 (by decide) (by decide) (by decide) (by decide) (by decide) (by decide))
  have n1 : wN F1 := by
    obtain ⟨⟨y1, y2, y3, y4⟩, y5, y6, y7, y8⟩ := x1
    have a0 : ag [0, 8, 17, 23, 32, 40, 44] F F1 := ao (by decide) (by decide) (by decide) (by decide) (by decide) (by decide)
    unfold wN
    rw [c1, cn_of (a0.at 8 (by decide)), cn_of (a0.at 17 (by decide)), cn_of (a0.at 23 (by decide)), cn_of (a0.at 32 (by decide)), cn_of (a0.at 40 (by decide)), cn_of (a0.at 44 (by decide)), cn_of (a0.at 0 (by decide)), a0.at 8 (by decide), a0.at 17 (by decide), a0.at 23 (by decide), a0.at 32 (by decide), a0.at 40 (by decide), a0.at 44 (by decide), a0.at 0 (by decide), f1]
    exact ⟨⟨y1, y2, y3, y4⟩, y5, y6, ⟨rfl, by omega⟩, y8⟩
  have gr : ∀ i, i < cn F 8 → (F1 10 i).toInt = (F 10 i).toInt - (F 11 i).toInt := fun i hi => by
    obtain ⟨-, w1, w2, -⟩ := (x2 i).1 hi
    have hy20 : cn F 1 ≤ 20 := by omega
    rw [e10, a10, if_pos hi, i32s (by omega) (by omega)]
  have e9 : F1 9 = F 9 := fo 9 (by decide) (by decide) (by decide) (by decide) (by decide) (by decide)
  have e11 : F1 11 = F 11 := fo 11 (by decide) (by decide) (by decide) (by decide) (by decide) (by decide)
  have e12 : F1 12 = F 12 := fo 12 (by decide) (by decide) (by decide) (by decide) (by decide) (by decide)
  have e13 : F1 13 = F 13 := fo 13 (by decide) (by decide) (by decide) (by decide) (by decide) (by decide)
  have e3 : F1 3 = F 3 := fo 3 (by decide) (by decide) (by decide) (by decide) (by decide) (by decide)
  have hp := rmn_p r6
  refine ⟨⟨⟨n1, fun i => ?_, ⟨?_, fun i hi => ?_⟩, wS_c (ao (by decide) (by decide) (by decide) (by decide) (by decide) (by decide)) x4, wO_c (ao (by decide) (by decide) (by decide) (by decide) (by decide) (by decide)) x5, ?_⟩, ⟨wG_c (ao (by decide) (by decide) (by decide) (by decide) (by decide) (by decide)) g1, wP_c (ao (by decide) (by decide) (by decide) (by decide) (by decide) (by decide)) g2, wD_c (ao (by decide) (by decide) (by decide) (by decide) (by decide) (by decide)) (gO 61 (by decide) (by decide)) g3⟩, ⟨wR_c (ao (by decide) (by decide) (by decide) (by decide) (by decide) (by decide)) g4, wC_c (ao (by decide) (by decide) (by decide) (by decide) (by decide) (by decide)) g5, wWk_c aw a5⟩, ?_, wT_c (fo 16 (by decide) (by decide) (by decide) (by decide) (by decide) (by decide)) g8⟩, ⟨fun k hk => ?_, fun k hk => ?_⟩, ?_⟩
  · rw [e8, c1, e9, e11, e12, e13, gO 14 (by decide) (by decide), gO 15 (by decide) (by decide)]
    refine ⟨fun hi => ?_, (x2 i).2⟩
    obtain ⟨w0, w1, w2, w3⟩ := (x2 i).1 hi
    refine ⟨w0, ?_, w2, w3⟩
    rw [gr i hi]
    omega
  · have : fs F1 = fs F := by unfold fs; rw [fo 30 (by decide) (by decide) (by decide) (by decide) (by decide) (by decide)]
    rw [this]; exact x3.1
  · have ef : fs F1 = fs F := by unfold fs; rw [fo 30 (by decide) (by decide) (by decide) (by decide) (by decide) (by decide)]
    rw [e8] at hi
    obtain ⟨-, w1, w2, -⟩ := (x2 i).1 hi
    have hl := x3.2 i hi
    unfold lev at *
    rw [ef, gO 14 (by decide) (by decide), gr i hi, e9]
    exact ⟨hl.1, by omega⟩
  · obtain ⟨z1, z2, z3, z4⟩ := x6
    have hs := sea_F x1 n1 (ao (ks := [5, 6, 40, 41, 42, 43]) (by decide) (by decide) (by decide) (by decide) (by decide) (by decide)) G1 (F 0 0)
    refine ⟨?_, ?_, fun i => ?_, fun i hi => ?_⟩
    · rw [gO 69 (by decide) (by decide), fo 0 (by decide) (by decide) (by decide) (by decide) (by decide) (by decide), hs, z1, sea_G x1 G G1]
    · rw [hG1, u2_at]; exact Or.inl rfl
    · rw [hG1, u2_other _ (by decide : 57 ≠ 58), u2_same]
      split
      · exact z2
      · exact z3 i
    · rw [c1] at hi
      rw [hG1, u2_other _ (by decide : 57 ≠ 58), u2_same, if_neg (by omega)]
      exact z4 i (by omega)
  · obtain ⟨w1, w2⟩ := g7
    unfold wM
    rw [e62, e3, i32a (by omega) (by omega)]
    exact ⟨⟨by omega, by omega⟩, w2⟩
  · by_cases k1 : k = 1
    · subst k1
      rw [hFM1, hF1]
      funext i
      rw [u2_same, u2_same, u2_other _ (by decide : 1 ≠ 52), b1 1 (by decide) (by decide) (by decide) (by decide) (by decide), a1 1 (by decide) (by decide) (by decide) (by decide) (by decide), h3 1 (by decide)]
    · by_cases k2 : k = 10
      · subst k2
        funext i
        rw [e10, a10, hFM1, u2_other _ (by decide : 10 ≠ 1), u2_other _ (by decide : 10 ≠ 52), b10, h3 10 (by decide), h3 11 (by decide)]
      · by_cases k3 : k = 35
        · subst k3
          funext i
          rw [e35, a6, hFM1, u2_other _ (by decide : 35 ≠ 1), u2_other _ (by decide : 35 ≠ 52), b6, h3 35 (by decide), cre_p r6]
        · rw [mo k k1 (fun e => by subst e; revert hk; decide) k2 k3 (fun e => by subst e; revert hk; decide) (fun e => by subst e; revert hk; decide) (fun e => by subst e; revert hk; decide), fo k k1 k2 (fun e => by subst e; revert hk; decide) k3 (fun e => by subst e; revert hk; decide) (fun e => by subst e; revert hk; decide)]
          exact h3 k hk
  · by_cases k1 : k = 58
    · subst k1
      rw [hGM1, hG1]
      funext i
      rw [u2_same, u2_same, u2_other _ (by decide : 58 ≠ 57), u2_other _ (by decide : 58 ≠ 57), u2_other _ (by decide : 58 ≠ 2), h4 58 (by decide)]
    · by_cases k2 : k = 57
      · subst k2
        rw [hGM1, hG1]
        funext i
        rw [u2_other _ (by decide : 57 ≠ 58), u2_other _ (by decide : 57 ≠ 58), u2_same, u2_same, u2_other _ (by decide : 57 ≠ 2), h4 57 (by decide), h4 58 (by decide)]
      · rw [gmO k (fun e => by subst e; revert hk; decide) k2 k1, gO k k2 k1]
        exact h4 k hk
  · have e52 : FM1 52 0 = nI L := by rw [hFM1, u2_other _ (by decide : 52 ≠ 1), u2_at]
    have c52 : cn FM1 52 = L := by unfold cn; rw [e52, nI_clamp (by omega)]
    have eM : wkM FM1 = rmn (wkM FM) := by
      rw [wmL_0, c52, ← b7]
      refine wmL_ag _ (fun i hi => ?_)
      rw [hFM1, u2_other _ (by decide : 53 ≠ 1), u2_other _ (by decide : 53 ≠ 52), u2_other _ (by decide : 54 ≠ 1), u2_other _ (by decide : 54 ≠ 52), u2_other _ (by decide : 55 ≠ 1), u2_other _ (by decide : 55 ≠ 52)]
      exact ⟨rfl, rfl, rfl⟩
    have eC : wkC F1 = rmn (wkC F) := by rw [wkC_c (F := F4) (fun k hk => aw k (by revert hk; simp; omega)), a7]
    unfold rX
    rw [e62, eM, eC, c52, e52, mo 38 (by decide) (by decide) (by decide) (by decide) (by decide) (by decide) (by decide), mo 50 (by decide) (by decide) (by decide) (by decide) (by decide) (by decide) (by decide), mo 51 (by decide) (by decide) (by decide) (by decide) (by decide) (by decide) (by decide), gO 61 (by decide) (by decide), fo 50 (by decide) (by decide) (by decide) (by decide) (by decide) (by decide), fo 64 (by decide) (by decide) (by decide) (by decide) (by decide) (by decide)]
    refine ⟨?_, r2, r3, rfl, b8, hp⟩
    obtain ⟨w1, w2⟩ := g7
    rw [hGM1, u2_other _ (by decide : 2 ≠ 58), u2_other _ (by decide : 2 ≠ 57), u2_at, ← r1, i64eq, i3264, i32a (by omega) (by omega), i64a (by rw [i3264, i3264]; omega) (by rw [i3264, i3264]; omega), i3264, i3264]
theorem fm_endYear {n : Nat} {F F2 : jF} {G G2 : jG} {M FM : jF} {GM : jG} (h : Iv n F G F2 G2 M FM GM) (hn : n < 512) : okX11_endYear F G M ∧ okX12_endYear FM GM ∧ rM n F G F2 G2 M FM GM (fun x : Int32 => x.toInt64) (fun x : Int32 => x.toInt64) (wk 3 9 9) [3] (gX11_endYear F G M) (gX12_endYear FM GM) := by
  have hr0 := Iv_rr h hn 0
  have hrb := (Iv_b h).1
  have hN := hrb.1.1.1
  have hR := hrb.2.1.1
  have h1 := hN.2.2.2.1
  have hw := hrb.1.2.2.1.2.2
  have h32 : cn F 32 ≤ 8 := hN.1.2.2.2.2
  have h8 := hN.1.1
  have r1 : FM 1 0 = nI (cn F 1) := by rw [hR.at 1 (by decide)]; exact h1.1
  by_cases hy : cn F 1 < 20
  · have z1 : (if (20 : Int32) ≤ F 1 0 then (0 : Int32) else 1) = 1 := if_neg (by rw [h1.1, n20]; exact nI_ge hy (by omega))
    have hst : gX11_needState 1 = 0 := rfl
    have m20 : ¬ FM 1 0 = 20 := by
      rw [r1]; intro e
      have := (nI_eq (show cn F 1 < 2 ^ 31 by omega) (show 20 < 2 ^ 31 by omega)).mp e
      omega
    -- the class
    obtain ⟨F3, hF3⟩ : ∃ F3, F3 = u2 (snk (cn F 8) F) 62 0 (F 62 0 + F 3 0) := ⟨_, rfl⟩
    have f3 : ∀ k, k ≠ 10 → k ≠ 62 → F3 k = F k := fun k q1 q2 => by rw [hF3, u2_other _ q2, snk_o _ F q1]
    have w3 : wWk F3 := wWk_c (fun k hk => f3 k (by revert hk; simp; omega) (by revert hk; simp; omega)) hw
    obtain ⟨F4, p1, p2, p3, -, p5, p6, p7⟩ := gw_L G 6 0 80 F3 (by omega) (by omega) w3 (by rw [cn_of (f3 32 (by decide) (by decide))]; exact h32)
    have ewk : wkL F3 (List.range' 0 6) = wkC F := by rw [← wkL_0]; exact wkC_c (fun k hk => f3 k (by revert hk; simp; omega) (by revert hk; simp; omega))
    rw [ewk] at p6 p7
    rw [← wkL_0] at p7
    have e41 : F4 1 0 = nI (cn F 1) := by rw [p3 1 (by decide) (by decide) (by decide), f3 1 (by decide) (by decide)]; exact h1.1
    have eC1 : (snk (cn F 8) F) 1 0 = nI (cn F 1) := by rw [snk_o _ F (by decide)]; exact h1.1
    have eC62 : (snk (cn F 8) F) 62 0 = F 62 0 := by rw [snk_o _ F (by decide)]
    have eC3 : (snk (cn F 8) F) 3 0 = F 3 0 := by rw [snk_o _ F (by decide)]
    obtain ⟨s1, s2⟩ := snk_C F G h8.2 8 0 80 (by omega) (by omega)
    rw [Nat.min_eq_left (Nat.zero_le _), snk_0] at s1 s2
    have hsk : gX10_sinkAll F G = (snk (cn F 8) F, G) := s1 _
    have hsko : okX10_sinkAll F G := s2 _ trivial
    have hgo : gX1_goOnWithWorks F3 G = (F4, G) := p1 _
    have hgoo : okX1_goOnWithWorks F3 G := p2 _ trivial
    obtain ⟨F1, hF1⟩ : ∃ F1, F1 = u2 F4 1 0 (nI (cn F 1 + 1)) := ⟨_, rfl⟩
    obtain ⟨G1, hG1⟩ : ∃ G1, G1 = u2 (u2 G 57 (cn F 1) (G 58 0)) 58 0 (-9223372036854775808) := ⟨_, rfl⟩
    have ecy : (nI (cn F 1)).toNatClampNeg = cn F 1 := nI_clamp (by omega)
    have hs : gX5_closeYear F G = (nI (cn F 1 + 1), (F1, G1)) := by
      unfold gX5_closeYear
      rw [hsk, bsd]
      show bs (gX1_close (snk (cn F 8) F) G) (fun (F6 : jF) (G7 : jG) => ((F6 1 0), (F6, G7))) = _
      unfold gX1_close
      rw [eC1, if_neg (nI_pos (by omega)), if_pos (by rw [n20]; exact nI_lt hy (by omega)), bvd, eC62, eC3, ← hF3, hgo]
      show ((u2 F4 1 0 (F4 1 0 + 1)) 1 0, (u2 F4 1 0 (F4 1 0 + 1), u2 (u2 G 57 (F4 1 0).toNatClampNeg (G 58 0)) 58 0 (-9223372036854775808))) = _
      rw [e41, ecy, nI_1, ← hF1, ← hG1, hF1, u2_at]
    have hso : okX5_closeYear F G := by
      unfold okX5_closeYear
      refine ⟨hsko, ?_⟩
      rw [hsk, bsd]
      show okX1_close (snk (cn F 8) F) G
      unfold okX1_close
      rw [eC1, bvd, eC62, eC3, ← hF3]
      refine ⟨fun _ => trivial, fun _ => ⟨fun _ => ⟨hgoo, ?_⟩, fun _ => trivial⟩⟩
      rw [hgo, bsd]
      show vp_in (F4 1 0) 20
      rw [e41]
      exact nI_vin hy (by omega)
    -- the reference
    obtain ⟨F6, hF6⟩ : ∃ F6, F6 = u2 FM 60 0 0 := ⟨_, rfl⟩
    rw [← hF6] at hr0
    have hR6 := hr0.2.1.1
    obtain ⟨l1, l2, l3⟩ : F6 52 0 = nI (cn F6 52) ∧ cn F6 52 ≤ 6 ∧ (wkC F).Perm (wkM F6) := hr0.2.2.2.2.2
    have t8 : F6 8 0 = nI (cn F 8) := by rw [hR6.at 8 (by decide)]; exact h8.1
    obtain ⟨t1, t2⟩ := snk_M F6 GM t8 h8.2 (cn F 8) 0 80 (by omega) (by omega)
    rw [snk_0] at t1 t2
    have hpre : ∀ j, 0 ≤ j → j < cn F6 52 → (∃ k, k < 8 ∧ snk (cn F 8) F6 53 j = nI k) ∧ 1 ≤ (snk (cn F 8) F6 55 j).toInt := fun j _ hj => by
      rw [snk_o _ F6 (by decide), snk_o _ F6 (by decide)]
      have hm : (F6 53 j, F6 54 j, F6 55 j) ∈ wkM F6 := by
        unfold wkM
        exact List.mem_map.mpr ⟨j, List.mem_range.mpr hj, rfl⟩
      have hm2 := l3.mem_iff.mpr hm
      unfold wkC at hm2
      obtain ⟨i, hi, ei⟩ := List.mem_map.mp hm2
      have hne : F 65 i ≠ -1 := of_decide_eq_true (List.mem_filter.mp hi).2
      simp only [Prod.mk.injEq] at ei
      obtain ⟨i1, i2, i3⟩ := ei
      rw [← i1, ← i3]
      refine ⟨?_, ((hw i).2 hne).2.1⟩
      rcases (hw i).1 with e | ⟨k, hk, e⟩
      · exact absurd e hne
      · exact ⟨k, by omega, e⟩
    obtain ⟨GM2, hGM2⟩ : ∃ GM2, GM2 = u2 GM 2 0 (GM 2 0 + (F 3 0).toInt64) := ⟨_, rfl⟩
    obtain ⟨FM4, q1, q2, q3, -, q5, q6⟩ := ew_L GM2 l2 (cn F6 52) 0 0 80 (snk (cn F 8) F6) (by omega) (by omega) (by omega) (by rw [snk_o _ F6 (by decide)]; exact l1) hpre
    have ewm : wmL (snk (cn F 8) F6) (List.range' 0 (cn F6 52)) = wkM F6 := by
      rw [wmL_0]
      refine wmL_ag _ (fun i _ => ?_)
      rw [snk_o _ F6 (by decide), snk_o _ F6 (by decide), snk_o _ F6 (by decide)]
      exact ⟨rfl, rfl, rfl⟩
    rw [ewm, nI_0, Nat.zero_add] at q1 q2
    rw [ewm] at q5 q6
    have hlen : (rmn (wkM F6)).length ≤ 6 := by
      unfold rmn
      rw [List.length_map]
      refine Nat.le_trans (List.length_filter_le _ _) ?_
      unfold wkM
      rw [List.length_map, List.length_range]; exact l2
    have hrr := RR_year (F4 := F4) (FM4 := FM4) hr0 (by omega) (by have := hrb.1.2.2.2.1.1.2; omega) hy (fun k u1 u2 u3 u4 u5 => by rw [p3 k u3 u4 u5, f3 k u1 u2]) (fun k => by rw [p3 10 (by decide) (by decide) (by decide), hF3, u2_other _ (by decide : 10 ≠ 62), snk_10]) (by rw [p3 62 (by decide) (by decide) (by decide), hF3, u2_at]) p5 (fun k => by rw [p6 k, f3 35 (by decide) (by decide)]) p7 (fun k u1 u2 u3 u4 u5 => by rw [q3 k u2 u3 u4 u5, snk_o _ F6 u1]) (fun k => by rw [q3 10 (by decide) (by decide) (by decide) (by decide), snk_10]) (fun k => by rw [q5 k, snk_o _ F6 (by decide)]) q6 hlen (y := cn F 1) rfl
    rw [← hF1, ← hG1, ← hGM2] at hrr
    obtain ⟨FM1, hFM1⟩ : ∃ FM1, FM1 = u2 (u2 FM4 52 0 (nI (rmn (wkM F6)).length)) 1 0 (nI (cn F 1 + 1)) := ⟨_, rfl⟩
    obtain ⟨GM1, hGM1⟩ : ∃ GM1, GM1 = u2 (u2 GM2 57 (cn F 1) (GM 58 0)) 58 0 (-9223372036854775808) := ⟨_, rfl⟩
    rw [← hFM1, ← hGM1] at hrr
    have em1 : FM4 1 0 = nI (cn F 1) := by rw [q3 1 (by decide) (by decide) (by decide) (by decide), snk_o _ F6 (by decide), hR6.at 1 (by decide)]; exact h1.1
    have em3 : snk (cn F 8) F6 3 0 = F 3 0 := by rw [snk_o _ F6 (by decide), hR6.at 3 (by decide)]
    have e60 : F6 60 0 = 0 := by rw [hF6, u2_at]
    have hmr : gX12_endYear FM GM = (nI (cn F 1 + 1), (FM1, GM1)) := by
      unfold gX12_endYear
      simp only [bvd]
      rw [if_neg m20, ← hF6, e60, if_pos (by decide)]
      refine (t1 _).trans ?_
      rw [em3, ← hGM2]
      refine (q1 _).trans ?_
      rw [u2_other _ (by decide : 1 ≠ 52), em1, ecy, nI_1, u2_at, ← hFM1]
      rw [show GM2 58 0 = GM 58 0 by rw [hGM2, u2_other _ (by decide : 58 ≠ 2)], ← hGM1]
    have hmo : okX12_endYear FM GM := by
      unfold okX12_endYear
      simp only [bvd]
      rw [if_neg m20, ← hF6]
      refine ⟨fun _ => t2 _ ?_, fun _ => trivial⟩
      rw [em3, ← hGM2]
      refine q2 _ ?_
      rw [u2_other _ (by decide : 1 ≠ 52), em1]
      exact nI_vin hy (by omega)
    have h0 : cn F1 0 = cn F 0 := cn_of (by rw [hF1, u2_other _ (by decide : 0 ≠ 1), p3 0 (by decide) (by decide) (by decide), f3 0 (by decide) (by decide)])
    obtain ⟨M1, m1, m2, m3, m4⟩ := Iv_act (F1 := F1) (G1 := G1) h hn 18 0 0 0 0 0 (ov_18 hso) (by rw [ac_18, hs]) (by rw [h0]; exact hrr)
    refine ⟨?_, hmo, Or.inl ⟨nI (cn F 1 + 1), _, _, M1, nI (cn F 1 + 1), _, _, ?_, hmr, ?_, rfl, m4⟩⟩
    · unfold okX11_endYear
      rw [bvd, z1, bvd]; intro _
      refine ⟨(m1 _).2, ?_⟩
      rw [(m1 _).1, brd]; exact m3
    · unfold gX11_endYear
      rw [bvd, z1, bvd, hst, if_pos rfl, (m1 _).1, brd, brd]
      show (0, (Int64.toInt32 (gX5_act F G (M1 82) (nI (6 * (M 80 0).toNatClampNeg))).1, ((gX5_act F G (M1 82) (nI (6 * (M 80 0).toNatClampNeg))).2, M1))) = _
      rw [m2, ac_18, hs, ti32]
    · rw [hFM1, u2_other _ (by decide : 60 ≠ 1), u2_other _ (by decide : 60 ≠ 52), q3 60 (by decide) (by decide) (by decide) (by decide), snk_o _ F6 (by decide), e60]
  · have e20 : cn F 1 = 20 := by have := h1.2; omega
    have z1 : (if (20 : Int32) ≤ F 1 0 then (0 : Int32) else 1) = 0 := if_pos (by rw [h1.1, e20, n20]; exact nI_le (Nat.le_refl _) (by omega))
    have hst : gX11_needState 0 = 3 := rfl
    have m20 : FM 1 0 = 20 := by rw [r1, e20]; rfl
    refine ⟨?_, ?_, Or.inr ⟨3, 0, 0, 1, by decide, ?_, ?_, rfl⟩⟩
    · unfold okX11_endYear
      rw [bvd, z1, bvd, hst]; intro e; exact absurd e (by decide)
    · unfold okX12_endYear
      simp only [bvd]
      rw [if_pos m20, u2_at]
      exact ⟨fun e => absurd e (by decide), fun _ => trivial⟩
    · unfold gX11_endYear
      rw [bvd, z1, bvd, hst, if_neg (by decide)]
    · unfold gX12_endYear
      simp only [bvd]
      rw [if_pos m20, u2_at, if_neg (by decide)]
