-- drive
theorem RR_30 {b : Int} {c : Nat} {F FM : jF} {G GM : jG} (h : RR b c F G FM GM) (hb : b + 1000000 ≤ 1720000000) {j : Nat} (hj : j < cn F 23) {v w : Int32} (hv : jb v) (a1 : (F 30 j).toInt ≤ w.toInt) (a2 : w.toInt ≤ 99 * (c : Int)) (a3 : 9999 * (w.toInt - (F 30 j).toInt) ≤ 1000000) : RR (b + 1000000) c (u2 (u2 F 29 j v) 30 j w) G (u2 (u2 FM 29 j v) 30 j w) GM := by
  obtain ⟨⟨⟨x1, x2, x3, x4, x5, x6⟩, ⟨g1, g2, g3⟩, ⟨g4, g5, g6⟩, g7, g8⟩, ⟨h3, h4⟩, h5⟩ := h
  have hn : cn F 23 ≤ 8 := x1.1.2.2.1.2
  have hag : ∀ {ks : List Nat}, 29 ∉ ks → 30 ∉ ks → ag ks F (u2 (u2 F 29 j v) 30 j w) := fun q1 q2 => ag_tr (ag_off F q1 j _) (ag_off _ q2 j _)
  have ham : ∀ {ks : List Nat}, 29 ∉ ks → 30 ∉ ks → ag ks FM (u2 (u2 FM 29 j v) 30 j w) := fun q1 q2 => ag_tr (ag_off FM q1 j _) (ag_off _ q2 j _)
  have a0 : ag [8, 9, 10, 16, 23, 24, 25, 26, 27, 28, 31] F (u2 (u2 F 29 j v) 30 j w) := hag (by decide) (by decide)
  have n1 : wN (u2 (u2 F 29 j v) 30 j w) := wN_c (hag (by decide) (by decide)) x1
  have hfs : fs (u2 (u2 F 29 j v) 30 j w) = fs F - (F 30 j).toInt + w.toInt := by
    have e1 := fs_u (F := u2 F 29 j v) (i := j) (by omega) w
    rw [u2_other F (by decide : 30 ≠ 29)] at e1
    have e2 : fs (u2 F 29 j v) = fs F := by unfold fs; rw [u2_other F (by decide : 30 ≠ 29)]
    rw [e1, e2]
  have hge := fs_ge g2 (i := j) (by omega)
  obtain ⟨w1, w2, w3, w4, w5⟩ := g2 j
  refine ⟨⟨⟨n1, wB_c (hag (by decide) (by decide)) rfl (fun _ _ => rfl) x2, ⟨by rw [hfs]; have := x3.1; omega, fun i hi => ?_⟩, wS_c (hag (by decide) (by decide)) x4, wO_c (hag (by decide) (by decide)) x5, wZ_c x1 n1 (hag (by decide) (by decide)) (ag_rf _ G) x6⟩, ⟨wG_c (hag (by decide) (by decide)) g1, fun i => ?_, wD_c (hag (by decide) (by decide)) rfl g3⟩, ⟨wR_c (hag (by decide) (by decide)) g4, wC_c (hag (by decide) (by decide)) g5, wWk_c (hag (by decide) (by decide)) g6⟩, wM_c (hag (by decide) (by decide)) g7, wT_c (a0.at 16 (by decide)) g8⟩, ⟨ag_u2 (ag_u2 h3 29 j rfl) 30 j rfl, h4⟩, rX_c (hag (by decide) (by decide)) (ham (by decide) (by decide)) rfl rfl h5⟩
  · rw [cn_of (a0.at 8 (by decide))] at hi
    have hl := x3.2 i hi
    rw [hfs, lev_c (hag (by decide) (by decide))]
    exact ⟨hl.1, by omega⟩
  · obtain ⟨v1, v2, v3, v4, v5⟩ := g2 i
    rw [cn_of (a0.at 23 (by decide)), a0.at 24 (by decide), a0.at 25 (by decide), a0.at 26 (by decide), a0.at 27 (by decide), a0.at 28 (by decide), a0.at 31 (by decide), u2_other _ (by decide : 29 ≠ 30), u2_same, u2_same, u2_other F (by decide : 30 ≠ 29)]
    refine ⟨fun hi => ⟨wy_c (a0.at 8 (by decide)) (v1 hi).1, (v1 hi).2⟩, ?_, ?_, v4, fun hi => ?_⟩
    · split
      · exact hv
      · exact v2
    · by_cases e : i = j
      · rw [if_pos e]; omega
      · rw [if_neg e]; exact v3
    · rw [if_neg (by omega), if_neg (by omega)]; exact v5 hi
theorem fm_drive {n : Nat} {F F2 : jF} {G G2 : jG} {M FM : jF} {GM : jG} (h : Iv n F G F2 G2 M FM GM) (hn : n < 512) (p1 p2 p3 : Int32) : okX11_drive F G M p1 p2 p3 ∧ okX12_drive FM GM p1 p2 p3 ∧ rM n F G F2 G2 M FM GM (fun x : Int32 => x.toInt64) (fun x : Int32 => x.toInt64) (wk 1 2 3) [1, 2, 3] (gX11_drive F G M p1 p2 p3) (gX12_drive FM GM p1 p2 p3) := by
  have hr0 := Iv_rr h hn 0
  have hrb := (Iv_b h).1
  have hN := hrb.1.1.1
  have hR := hrb.2.1.1
  have hG := hrb.2.1.2
  rcases pu_c G hN hR p1 with ⟨j0, hj0, hj8_0, e1_0, e2_0, e3_0, e4_0⟩ | ⟨e2_0, e3_0, e4_0⟩
  · skip
    rcases nr_c p3 0 99 with ⟨a1_1, a2_1, a3_1, a4_1⟩ | ⟨a1_1, a2_1⟩
    · skip
      rcases mo_c G hrb.2.2.1 (x := p3) (y := p3.toInt64) rfl with ⟨a1_2, a2_2, a3_2⟩ | ⟨a1_2, a2_2⟩
      · skip
        have hm := (hrb.1.2.2.2.1).1
        have a30 : (0 : Int32).toInt = 0 := rfl
        have a39 : (99 : Int32).toInt = 99 := rfl
        have hj8b : cn F 23 ≤ 8 := hN.1.2.2.1.2
        have hfu := (hrb.1.2.1.2.1 j0).2.2.1
        have h99 := (Iv_b h).2
        have ea : (F 62 0 - p3).toInt = (F 62 0).toInt - p3.toInt := i32s (by omega) (by omega)
        have ef : (F 30 j0 + p3).toInt = (F 30 j0).toInt + p3.toInt := i32a (by omega) (by omega)
        have hjb : jb (if p2 = 0 then (0 : Int32) else 1) := by split; exact Or.inl rfl; exact Or.inr rfl
        have hrm := RR_money (RR_c hrb 0) (v := F 62 0 - p3) (by rw [ea]; omega) (by rw [ea]; omega)
        have hrr := RR_30 hrm (by omega) (j := j0) (v := (if p2 = 0 then (0 : Int32) else 1)) (w := F 30 j0 + p3) (by rw [cn_of (u2_other F (by decide : 23 ≠ 62) 0 (F 62 0 - p3))]; exact hj0) hjb (by rw [u2_other F (by decide : 30 ≠ 62), ef]; omega) (by rw [ef]; omega) (by rw [u2_other F (by decide : 30 ≠ 62), ef]; omega)
        have e2 : (F 62 0 - p3).toInt64 = GM 2 0 - p3.toInt64 := by rw [← hrb.2.2.1, i64eq, i3264, ea, i64s (by rw [i3264, i3264]; omega) (by rw [i3264, i3264]; omega), i3264, i3264]
        have h0 : cn (u2 (u2 (u2 F 62 0 (F 62 0 - p3)) 29 j0 (if p2 = 0 then (0 : Int32) else 1)) 30 j0 (F 30 j0 + p3)) 0 = cn F 0 := cn_of (by rw [u2_other _ (by decide : 0 ≠ 30), u2_other _ (by decide : 0 ≠ 29), u2_other _ (by decide : 0 ≠ 62)])
        have evv : (if (if p2 = 0 then (0 : Int32) else 1) = 0 then (0 : Int32) else 1) = (if p2 = 0 then (0 : Int32) else 1) := by by_cases cc : p2 = 0; rw [if_pos cc, if_pos rfl]; rw [if_neg cc, if_neg (by decide)]
        have hs : gX5_switchPump F G (gX5_pumpAt F G p1) (if p2 = 0 then (0 : Int32) else 1) p3 = (F 30 j0 + p3, ((u2 (u2 (u2 F 62 0 (F 62 0 - p3)) 29 j0 (if p2 = 0 then (0 : Int32) else 1)) 30 j0 (F 30 j0 + p3)), G)) := by unfold gX5_switchPump; rw [e3_0, om_s, bvd, bvd, bvd, u2_other _ (by decide : 30 ≠ 29), u2_other _ (by decide : 30 ≠ 62), u2_at]
        have hso : okX5_switchPump F G (gX5_pumpAt F G p1) (if p2 = 0 then (0 : Int32) else 1) p3 := by unfold okX5_switchPump; rw [e3_0, om_s, bvd, bvd, bvd, cn_of (u2_other F (by decide : 23 ≠ 62) 0 (F 62 0 - p3)), cn_of (show u2 (u2 F 62 0 (F 62 0 - p3)) 29 j0 (if p2 = 0 then (0 : Int32) else 1) 23 = F 23 by rw [u2_other _ (by decide : 23 ≠ 29), u2_other _ (by decide : 23 ≠ 62)]), cn_of (show u2 (u2 (u2 F 62 0 (F 62 0 - p3)) 29 j0 (if p2 = 0 then (0 : Int32) else 1)) 30 j0 _ 23 = F 23 by rw [u2_other _ (by decide : 23 ≠ 30), u2_other _ (by decide : 23 ≠ 29), u2_other _ (by decide : 23 ≠ 62)])]; exact ⟨hjb, hj0, hj0, hj0, hj0⟩
        obtain ⟨M1, m1, m2, m3, m4⟩ := Iv_act (F1 := (u2 (u2 (u2 F 62 0 (F 62 0 - p3)) 29 j0 (if p2 = 0 then (0 : Int32) else 1)) 30 j0 (F 30 j0 + p3))) (G1 := G) h hn 12 p1 (if p2 = 0 then (0 : Int32) else 1) p3 0 0 (ov_12 (by rw [evv]; exact ⟨pa_ok2 _, hso⟩)) (by rw [ac_12, evv, hs]) (by rw [h0, show 1000000 * ((n + 1 : Nat) : Int) + 119988 * (cn F 0 : Int) = 1000000 * (n : Int) + 119988 * (cn F 0 : Int) + 1000000 by omega]; exact hrr)
        have hv : vp_in p1 8 := by rw [e1_0]; exact nI_vin hj8_0 (by omega)
        have ecl : p1.toNatClampNeg = j0 := by rw [e1_0]; exact nI_clamp (by omega)
        have r30 := hR.at 30 (by decide)
        refine ⟨?_, ?_, Or.inl ⟨(F 30 j0 + p3), _, _, M1, (F 30 j0 + p3), _, _, ?_, ?_, ?_, ?_, m4⟩⟩
        · unfold okX11_drive
          refine ⟨pa_ok2 _, ?_⟩
          rw [e2_0, om_s]
          rw [bvd]; intro _
          rw [bvd]; intro _
          rw [bvd]
          refine ⟨(m1 _).2, ?_⟩
          rw [(m1 _).1, brd]; exact m3
        · unfold okX12_drive
          simp only [bvd, e4_0, a2_1, a2_2, u2_at, if_false, if_true, reduceIte]
          first | exact ⟨fun _ => ⟨hv, hv, hv, hv⟩, fun _ => trivial⟩ | exact ⟨hv, hv, hv, hv⟩ | skip
        · unfold gX11_drive
          rw [e2_0, om_s, bvd, a1_1, if_pos rfl, bvd, a1_2, if_pos rfl, bvd, (m1 _).1, brd, brd]
          show (0, (Int64.toInt32 (gX5_act F G (M1 82) (nI (6 * (M 80 0).toNatClampNeg))).1, ((gX5_act F G (M1 82) (nI (6 * (M 80 0).toNatClampNeg))).2, M1))) = _
          rw [m2, ac_12, evv, hs, ti32]
        · unfold gX12_drive
          simp only [bvd, e4_0, a2_1, a2_2, u2_at, u2_other _ (show 30 ≠ 60 by decide), u2_other _ (show 30 ≠ 29 by decide), if_false, if_true, reduceIte, ecl, r30, ← e2]
          rw [u2_cm _ (by decide : 30 ≠ 29)]
          rfl
        · simp only [u2_other _ (show 60 ≠ 30 by decide), u2_other _ (show 60 ≠ 29 by decide), u2_at]
        · rfl
      · refine ⟨?_, ?_, Or.inr ⟨3, 0, 0, 3, by decide, ?_, ?_, rfl⟩⟩
        · unfold okX11_drive
          refine ⟨pa_ok2 _, ?_⟩
          rw [e2_0, om_s]
          rw [bvd]; intro _
          rw [bvd]; intro e; rw [a1_2] at e; exact absurd e (by decide)
        · unfold okX12_drive
          simp only [bvd, e4_0, a2_1, a2_2, u2_at, if_false, if_true, reduceIte]
          first | exact ⟨fun h => absurd h (by decide), fun _ => trivial⟩ | exact fun h => absurd h (by decide) | exact ⟨⟨fun _ => trivial, fun _ => ib_ok _ _ _⟩, fun h => absurd h (by decide), fun _ => trivial⟩ | exact ⟨fun h => absurd h (by decide), fun _ => ⟨fun h => absurd h (by decide), fun _ => trivial⟩⟩ | exact ⟨fun _ => ⟨fun h => absurd h (by decide), fun _ => trivial⟩, fun h => absurd rfl h⟩ | exact ⟨fun _ => ⟨fun h => absurd h (by decide), fun _ => trivial⟩, fun h => absurd trivial h⟩ | skip
        · unfold gX11_drive
          rw [e2_0, om_s, bvd, a1_1, if_pos rfl, bvd, a1_2, if_neg (by decide)]
        · unfold gX12_drive
          simp only [bvd, e4_0, a2_1, a2_2, u2_at, if_false, if_true, reduceIte]
          first | rfl | skip
    · refine ⟨?_, ?_, Or.inr ⟨2, 0, 0, 2, by decide, ?_, ?_, rfl⟩⟩
      · unfold okX11_drive
        refine ⟨pa_ok2 _, ?_⟩
        rw [e2_0, om_s]
        rw [bvd]; intro e; rw [a1_1] at e; exact absurd e (by decide)
      · unfold okX12_drive
        simp only [bvd, e4_0, a2_1, u2_at, if_false, if_true, reduceIte]
        first | exact ⟨fun h => absurd h (by decide), fun _ => trivial⟩ | exact fun h => absurd h (by decide) | exact ⟨⟨fun _ => trivial, fun _ => ib_ok _ _ _⟩, fun h => absurd h (by decide), fun _ => trivial⟩ | exact ⟨fun h => absurd h (by decide), fun _ => ⟨fun h => absurd h (by decide), fun _ => trivial⟩⟩ | exact ⟨fun _ => ⟨fun h => absurd h (by decide), fun _ => trivial⟩, fun h => absurd rfl h⟩ | exact ⟨fun _ => ⟨fun h => absurd h (by decide), fun _ => trivial⟩, fun h => absurd trivial h⟩ | skip
      · unfold gX11_drive
        rw [e2_0, om_s, bvd, a1_1, if_neg (by decide)]
      · unfold gX12_drive
        simp only [bvd, e4_0, a2_1, u2_at, if_false, if_true, reduceIte]
        first | rfl | skip
  · refine ⟨?_, ?_, Or.inr ⟨1, 0, 0, 1, by decide, ?_, ?_, rfl⟩⟩
    · unfold okX11_drive
      refine ⟨pa_ok2 _, ?_⟩
      rw [e2_0, om_n]; trivial
    · unfold okX12_drive
      simp only [bvd, e4_0, u2_at, if_false, if_true, reduceIte]
      first | exact ⟨fun h => absurd h (by decide), fun _ => trivial⟩ | exact fun h => absurd h (by decide) | exact ⟨⟨fun _ => trivial, fun _ => ib_ok _ _ _⟩, fun h => absurd h (by decide), fun _ => trivial⟩ | exact ⟨fun h => absurd h (by decide), fun _ => ⟨fun h => absurd h (by decide), fun _ => trivial⟩⟩ | exact ⟨fun _ => ⟨fun h => absurd h (by decide), fun _ => trivial⟩, fun h => absurd rfl h⟩ | exact ⟨fun _ => ⟨fun h => absurd h (by decide), fun _ => trivial⟩, fun h => absurd trivial h⟩ | skip
    · unfold gX11_drive
      rw [e2_0, om_n]
    · unfold gX12_drive
      simp only [bvd, e4_0, u2_at, if_false, if_true, reduceIte]
      first | rfl | skip
