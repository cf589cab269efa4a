-- send
theorem ca_ok2 {F : jF} {G : jG} (p : Int32) : okX5_crewAt F G p := by
  unfold okX5_crewAt
  refine ⟨fun _ => trivial, fun h => ⟨fun h8 => ?_, fun _ => trivial⟩⟩
  obtain ⟨j, hj, rfl⟩ := nI_of h
  rw [n3] at h8
  exact nI_vin ((nI_ltI hj (by omega)).mp h8) (by omega)
theorem cr_c (F : jF) (G : jG) (p : Int32) : (∃ j, j < 3 ∧ j < 8 ∧ p = nI j ∧ gX11_needCrew F G p = some j ∧ gX5_crewAt F G p = some j ∧ gX12_in p 0 2 = 1) ∨ (gX11_needCrew F G p = none ∧ gX5_crewAt F G p = none ∧ gX12_in p 0 2 = 0) := by
  by_cases c1 : p < 0
  · right
    have hb : gX5_crewAt F G p = none := by unfold gX5_crewAt; rw [if_pos c1]
    exact ⟨by unfold gX11_needCrew; rw [hb, bvd, om_n], hb, in_z.mpr (Or.inl c1)⟩
  · obtain ⟨j, hj, rfl⟩ := nI_of c1
    by_cases c2 : j < 3
    · left
      have hb : gX5_crewAt F G (nI j) = some j := by
        unfold gX5_crewAt
        rw [if_neg c1, n3, if_pos (nI_lt c2 (by omega)), bvd, nI_clamp (by omega), op_in c2]
      refine ⟨j, c2, by omega, rfl, by unfold gX11_needCrew; rw [hb, bvd, om_s], hb, ?_⟩
      unfold gX12_in
      rw [if_neg c1, if_neg (show ¬ (2 : Int32) < nI j from nI_nlt (a := 2) (b := j) (by omega) (by omega))]
    · right
      have hb : gX5_crewAt F G (nI j) = none := by
        unfold gX5_crewAt
        rw [if_neg c1, n3, if_neg (nI_nlt (by omega) (by omega))]
      exact ⟨by unfold gX11_needCrew; rw [hb, bvd, om_n], hb, in_z.mpr (Or.inr (nI_lt (a := 2) (b := j) (by omega) (by omega)))⟩
theorem sd_c {F FM : jF} (G : jG) (hN : wN F) (hR : ag shF F FM) (p : Int32) : (gX12_in p (-1) (FM 32 0 - 1) = 1 ∧ (p = -1 ∨ ∃ d, d < cn F 32 ∧ p = nI d) ∧ (∀ {α : Type} (X Y : α), (if p = (-1) then X else om (gX11_needDyke F G p) Y (fun _ => X)) = X) ∧ ∀ X : Prop, X → ((p = (-1) → X) ∧ (¬ p = (-1) → (okX11_needDyke F G p ∧ om (gX11_needDyke F G p) True (fun _ => X))))) ∨ (gX12_in p (-1) (FM 32 0 - 1) = 0 ∧ (∀ {α : Type} (X Y : α), (if p = (-1) then X else om (gX11_needDyke F G p) Y (fun _ => X)) = Y) ∧ ∀ X : Prop, ((p = (-1) → X) ∧ (¬ p = (-1) → (okX11_needDyke F G p ∧ om (gX11_needDyke F G p) True (fun _ => X))))) := by
  have h8 := hN.1.2.2.2
  have e8 : FM 32 0 = nI (cn F 32) := by rw [hR.at 32 (by decide)]; exact h8.1
  have y1 : (1 : Int32).toInt = 1 := rfl
  have ym : (-1 : Int32).toInt = -1 := rfl
  have y0 : (0 : Int32).toInt = 0 := rfl
  have em : (nI (cn F 32) - 1).toInt = (cn F 32 : Int) - 1 := by rw [i32s (by rw [nI_toInt (by omega), y1]; omega) (by rw [nI_toInt (by omega), y1]; omega), nI_toInt (by omega), y1]
  have hk : okX11_needDyke F G p := da_ok p
  rw [e8]
  by_cases c0 : p = -1
  · left
    refine ⟨?_, Or.inl c0, fun X Y => if_pos c0, fun X hX => ⟨fun _ => hX, fun e => absurd c0 e⟩⟩
    unfold gX12_in
    rw [if_neg (show ¬ p < -1 by rw [i32lt, c0]; omega), if_neg (show ¬ nI (cn F 32) - 1 < p by rw [i32lt, em, c0, ym]; omega)]
  · rcases dy_c G hN hR p with ⟨j, hj, hj8, e1, e2, e3, e4⟩ | ⟨e2, e3, e4⟩
    · left
      refine ⟨?_, Or.inr ⟨j, hj, e1⟩, fun X Y => by rw [if_neg c0, e2, om_s], fun X hX => ⟨fun _ => hX, fun _ => ⟨hk, by rw [e2, om_s]; exact hX⟩⟩⟩
      have ep : p.toInt = (j : Int) := by rw [e1, nI_toInt (by omega)]
      unfold gX12_in
      rw [if_neg (show ¬ p < -1 by rw [i32lt, ym]; omega), if_neg (show ¬ nI (cn F 32) - 1 < p by rw [i32lt, em]; omega)]
    · right
      refine ⟨?_, fun X Y => by rw [if_neg c0, e2, om_n], fun X => ⟨fun e => absurd e c0, fun _ => ⟨hk, by rw [e2, om_n]; trivial⟩⟩⟩
      rw [e8] at e4
      rcases in_z.mp e4 with e | e
      · refine in_z.mpr (Or.inl ?_)
        rw [i32lt, y0] at e
        rw [i32eq, ym] at c0
        rw [i32lt, ym]; omega
      · exact in_z.mpr (Or.inr e)
theorem RR_send {b : Int} {c : Nat} {F FM : jF} {G GM : jG} (h : RR b c F G FM GM) {j : Nat} (hj : j < 3) {p w : Int32} (hp : p = -1 ∨ ∃ d, d < cn F 32 ∧ p = nI d) (a1 : 0 ≤ w.toInt) (a2 : w.toInt ≤ 10 + 99 * (c : Int)) : RR b c (u2 (u2 F 64 j p) 50 j w) G (u2 (u2 FM 50 j w) 51 j (p + 1)) GM := by
  obtain ⟨⟨⟨x1, x2, x3, x4, x5, x6⟩, ⟨g1, g2, g3⟩, ⟨g4, g5, g6⟩, g7, g8⟩, ⟨h3, h4⟩, ⟨r1, r2, r3, r4, r5, r6⟩⟩ := h
  have ao : ∀ {ks : List Nat}, 64 ∉ ks → 50 ∉ ks → ag ks F (u2 (u2 F 64 j p) 50 j w) := fun q0 q1 => ag_tr (ag_off F q0 j _) (ag_off _ q1 j _)
  have am : ∀ {ks : List Nat}, 50 ∉ ks → 51 ∉ ks → ag ks FM (u2 (u2 FM 50 j w) 51 j (p + 1)) := fun q0 q1 => ag_tr (ag_off FM q0 j _) (ag_off _ q1 j _)
  have n1 : wN (u2 (u2 F 64 j p) 50 j w) := wN_c (ao (by decide) (by decide)) x1
  have a0 : ag [16, 32, 49, 62, 65, 66, 67] F (u2 (u2 F 64 j p) 50 j w) := ao (by decide) (by decide)
  have m0 : ag [38, 52, 53, 54, 55] FM (u2 (u2 FM 50 j w) 51 j (p + 1)) := am (by decide) (by decide)
  refine ⟨⟨⟨n1, wB_c (ao (by decide) (by decide)) rfl (fun _ _ => rfl) x2, wL_c (ao (by decide) (by decide)) x3, wS_c (ao (by decide) (by decide)) x4, wO_c (ao (by decide) (by decide)) x5, wZ_c x1 n1 (ao (by decide) (by decide)) (ag_rf _ G) x6⟩, ⟨wG_c (ao (by decide) (by decide)) g1, wP_c (ao (by decide) (by decide)) g2, wD_c (ao (by decide) (by decide)) rfl g3⟩, ⟨wR_c (ao (by decide) (by decide)) g4, fun i hi => ?_, wWk_c (ao (by decide) (by decide)) g6⟩, wM_c (ao (by decide) (by decide)) g7, wT_c (a0.at 16 (by decide)) g8⟩, ⟨fun k hk => by rw [am (ks := shF) (by decide) (by decide) k hk, ao (ks := shF) (by decide) (by decide) k hk]; exact h3 k hk, h4⟩, ?_⟩
  · obtain ⟨w1, w2, w3⟩ := g5 i hi
    rw [a0.at 49 (by decide), cn_of (a0.at 32 (by decide)), u2_same, u2_other _ (by decide : 64 ≠ 50), u2_same, u2_other F (by decide : 50 ≠ 64)]
    refine ⟨w1, ?_, ?_⟩
    · split
      · exact ⟨a1, a2⟩
      · exact w2
    · split
      · exact hp
      · exact w3
  · unfold rX
    rw [a0.at 62 (by decide), m0.at 38 (by decide), m0.at 52 (by decide), cn_of (m0.at 52 (by decide)), wkM_c (fun k hk => m0 k (by revert hk; simp; omega)), wkC_c (fun k hk => a0 k (by revert hk; simp; omega))]
    refine ⟨r1, r2, fun i hi => ?_, r4, r5, r6⟩
    rw [u2_other _ (by decide : 50 ≠ 51), u2_same, u2_same, u2_same, u2_other _ (by decide : 51 ≠ 50), u2_other _ (by decide : 64 ≠ 50), u2_same, u2_other F (by decide : 50 ≠ 64)]
    refine ⟨?_, ?_⟩
    · split
      · rfl
      · exact (r3 i hi).1
    · split
      · rfl
      · exact (r3 i hi).2
theorem fm_send {n : Nat} {F F2 : jF} {G G2 : jG} {M FM : jF} {GM : jG} (h : Iv n F G F2 G2 M FM GM) (hn : n < 512) (p1 p2 p3 : Int32) : okX11_send F G M p1 p2 p3 ∧ okX12_send FM GM p1 p2 p3 ∧ rM n F G F2 G2 M FM GM (fun x : Int32 => x.toInt64) (fun x : Int32 => x.toInt64) (wk 1 2 3) [1, 2, 3] (gX11_send F G M p1 p2 p3) (gX12_send FM GM p1 p2 p3) := by
  have hr0 := Iv_rr h hn 0
  have hrb := (Iv_b h).1
  have hN := hrb.1.1.1
  have hR := hrb.2.1.1
  have hG := hrb.2.1.2
  rcases cr_c F G p1 with ⟨j0, hj0, hj8_0, e1_0, e2_0, e3_0, e4_0⟩ | ⟨e2_0, e3_0, e4_0⟩
  · skip
    rcases sd_c G hN hR p2 with ⟨e4_1, e1_1, hX_1, hO_1⟩ | ⟨e4_1, hX_1, hO_1⟩
    · skip
      rcases nr_c p3 0 99 with ⟨a1_2, a2_2, a3_2, a4_2⟩ | ⟨a1_2, a2_2⟩
      · skip
        rcases mo_c G hrb.2.2.1 (x := p3) (y := p3.toInt64) rfl with ⟨a1_3, a2_3, a3_3⟩ | ⟨a1_3, a2_3⟩
        · skip
          have hm := (hrb.1.2.2.2.1).1
          have a30 : (0 : Int32).toInt = 0 := rfl
          have a39 : (99 : Int32).toInt = 99 := rfl
          have hbg := (hrb.1.2.2.1.2.1 j0 hj0).2.1
          have ea : (F 62 0 - p3).toInt = (F 62 0).toInt - p3.toInt := i32s (by omega) (by omega)
          have ef : (F 50 j0 + p3).toInt = (F 50 j0).toInt + p3.toInt := i32a (by omega) (by omega)
          have hrm := RR_money hr0 (v := F 62 0 - p3) (by rw [ea]; omega) (by rw [ea]; omega)
          have hrr := RR_send hrm hj0 (p := p2) (w := F 50 j0 + p3) (by rw [cn_of (u2_other F (by decide : 32 ≠ 62) 0 (F 62 0 - p3))]; exact e1_1) (by rw [ef]; omega) (by rw [ef]; omega)
          have e2 : (F 62 0 - p3).toInt64 = GM 2 0 - p3.toInt64 := by rw [← hrb.2.2.1, i64eq, i3264, ea, i64s (by rw [i3264, i3264]; omega) (by rw [i3264, i3264]; omega), i3264, i3264]
          have h0 : cn (u2 (u2 (u2 F 62 0 (F 62 0 - p3)) 64 j0 p2) 50 j0 (F 50 j0 + p3)) 0 = cn F 0 := cn_of (by rw [u2_other _ (by decide : 0 ≠ 50), u2_other _ (by decide : 0 ≠ 64), u2_other _ (by decide : 0 ≠ 62)])
          have hs : gX5_sendCrew F G (gX5_crewAt F G p1) p2 p3 = (F 50 j0 + p3, ((u2 (u2 (u2 F 62 0 (F 62 0 - p3)) 64 j0 p2) 50 j0 (F 50 j0 + p3)), G)) := by unfold gX5_sendCrew; rw [e3_0, om_s, bvd, bvd, bvd, u2_other _ (by decide : 50 ≠ 64), u2_other _ (by decide : 50 ≠ 62), u2_at]
          have hso : okX5_sendCrew F G (gX5_crewAt F G p1) p2 p3 := by unfold okX5_sendCrew; rw [e3_0, om_s, bvd, bvd, bvd]; exact ⟨hj0, hj0, hj0, hj0⟩
          obtain ⟨M1, m1, m2, m3, m4⟩ := Iv_act (F1 := (u2 (u2 (u2 F 62 0 (F 62 0 - p3)) 64 j0 p2) 50 j0 (F 50 j0 + p3))) (G1 := G) h hn 14 p1 p2 p3 0 0 (ov_14 ⟨ca_ok2 _, hso⟩) (by rw [ac_14, hs]) (by rw [h0]; exact hrr)
          have hv : vp_in p1 3 := by rw [e1_0]; exact nI_vin hj0 (by omega)
          have ecl : p1.toNatClampNeg = j0 := by rw [e1_0]; exact nI_clamp (by omega)
          have r50 := (hrb.2.2.2.2.1 j0 hj0).1
          refine ⟨?_, ?_, Or.inl ⟨(F 50 j0 + p3), _, _, M1, (F 50 j0 + p3), _, _, ?_, ?_, ?_, ?_, m4⟩⟩
          · unfold okX11_send
            refine ⟨ca_ok2 _, ?_⟩
            rw [e2_0, om_s]
            refine hO_1 _ ?_
            rw [bvd]; intro _
            rw [bvd]; intro _
            refine ⟨(m1 _).2, ?_⟩
            rw [(m1 _).1, brd]; exact m3
          · unfold okX12_send
            simp only [bvd, e4_0, e4_1, a2_2, a2_3, u2_at, if_false, if_true, reduceIte]
            first | exact ⟨fun _ => ⟨hv, hv, hv, hv⟩, fun _ => trivial⟩ | exact ⟨hv, hv, hv, hv⟩ | skip
          · unfold gX11_send
            rw [e2_0, om_s, hX_1, bvd, a1_2, if_pos rfl, bvd, a1_3, if_pos rfl, (m1 _).1, brd, brd]
            show (0, (Int64.toInt32 (gX5_act F G (M1 82) (nI (6 * (M 80 0).toNatClampNeg))).1, ((gX5_act F G (M1 82) (nI (6 * (M 80 0).toNatClampNeg))).2, M1))) = _
            rw [m2, ac_14, hs, ti32]
          · unfold gX12_send
            simp only [bvd, e4_0, e4_1, a2_2, a2_3, u2_at, u2_other _ (show 50 ≠ 60 by decide), u2_other _ (show 50 ≠ 51 by decide), if_false, if_true, reduceIte, ecl, r50, ← e2]
            rfl
          · simp only [u2_other _ (show 60 ≠ 51 by decide), u2_other _ (show 60 ≠ 50 by decide), u2_at]
          · rfl
        · refine ⟨?_, ?_, Or.inr ⟨3, 0, 0, 3, by decide, ?_, ?_, rfl⟩⟩
          · unfold okX11_send
            refine ⟨ca_ok2 _, ?_⟩
            rw [e2_0, om_s]
            refine hO_1 _ ?_
            rw [bvd]; intro _
            rw [bvd]; intro e; rw [a1_3] at e; exact absurd e (by decide)
          · unfold okX12_send
            simp only [bvd, e4_0, e4_1, a2_2, a2_3, u2_at, if_false, if_true, reduceIte]
            first | exact ⟨fun h => absurd h (by decide), fun _ => trivial⟩ | exact fun h => absurd h (by decide) | exact ⟨⟨fun _ => trivial, fun _ => ib_ok _ _ _⟩, fun h => absurd h (by decide), fun _ => trivial⟩ | exact ⟨fun h => absurd h (by decide), fun _ => ⟨fun h => absurd h (by decide), fun _ => trivial⟩⟩ | exact ⟨fun _ => ⟨fun h => absurd h (by decide), fun _ => trivial⟩, fun h => absurd rfl h⟩ | exact ⟨fun _ => ⟨fun h => absurd h (by decide), fun _ => trivial⟩, fun h => absurd trivial h⟩ | skip
          · unfold gX11_send
            rw [e2_0, om_s, hX_1, bvd, a1_2, if_pos rfl, bvd, a1_3, if_neg (by decide)]
          · unfold gX12_send
            simp only [bvd, e4_0, e4_1, a2_2, a2_3, u2_at, if_false, if_true, reduceIte]
            first | rfl | skip
      · refine ⟨?_, ?_, Or.inr ⟨2, 0, 0, 2, by decide, ?_, ?_, rfl⟩⟩
        · unfold okX11_send
          refine ⟨ca_ok2 _, ?_⟩
          rw [e2_0, om_s]
          refine hO_1 _ ?_
          rw [bvd]; intro e; rw [a1_2] at e; exact absurd e (by decide)
        · unfold okX12_send
          simp only [bvd, e4_0, e4_1, a2_2, u2_at, if_false, if_true, reduceIte]
          first | exact ⟨fun h => absurd h (by decide), fun _ => trivial⟩ | exact fun h => absurd h (by decide) | exact ⟨⟨fun _ => trivial, fun _ => ib_ok _ _ _⟩, fun h => absurd h (by decide), fun _ => trivial⟩ | exact ⟨fun h => absurd h (by decide), fun _ => ⟨fun h => absurd h (by decide), fun _ => trivial⟩⟩ | exact ⟨fun _ => ⟨fun h => absurd h (by decide), fun _ => trivial⟩, fun h => absurd rfl h⟩ | exact ⟨fun _ => ⟨fun h => absurd h (by decide), fun _ => trivial⟩, fun h => absurd trivial h⟩ | skip
        · unfold gX11_send
          rw [e2_0, om_s, hX_1, bvd, a1_2, if_neg (by decide)]
        · unfold gX12_send
          simp only [bvd, e4_0, e4_1, a2_2, u2_at, if_false, if_true, reduceIte]
          first | rfl | skip
    · refine ⟨?_, ?_, Or.inr ⟨1, 0, 0, 1, by decide, ?_, ?_, rfl⟩⟩
      · unfold okX11_send
        refine ⟨ca_ok2 _, ?_⟩
        rw [e2_0, om_s]
        exact hO_1 _
      · unfold okX12_send
        simp only [bvd, e4_0, e4_1, u2_at, if_false, if_true, reduceIte]
        first | exact ⟨fun h => absurd h (by decide), fun _ => trivial⟩ | exact fun h => absurd h (by decide) | exact ⟨⟨fun _ => trivial, fun _ => ib_ok _ _ _⟩, fun h => absurd h (by decide), fun _ => trivial⟩ | exact ⟨fun h => absurd h (by decide), fun _ => ⟨fun h => absurd h (by decide), fun _ => trivial⟩⟩ | exact ⟨fun _ => ⟨fun h => absurd h (by decide), fun _ => trivial⟩, fun h => absurd rfl h⟩ | exact ⟨fun _ => ⟨fun h => absurd h (by decide), fun _ => trivial⟩, fun h => absurd trivial h⟩ | skip
      · unfold gX11_send
        rw [e2_0, om_s, hX_1]
      · unfold gX12_send
        simp only [bvd, e4_0, e4_1, u2_at, if_false, if_true, reduceIte]
        first | rfl | skip
  · refine ⟨?_, ?_, Or.inr ⟨1, 0, 0, 1, by decide, ?_, ?_, rfl⟩⟩
    · unfold okX11_send
      refine ⟨ca_ok2 _, ?_⟩
      rw [e2_0, om_n]; trivial
    · unfold okX12_send
      simp only [bvd, e4_0, u2_at, if_false, if_true, reduceIte]
      first | exact ⟨fun h => absurd h (by decide), fun _ => trivial⟩ | exact fun h => absurd h (by decide) | exact ⟨⟨fun _ => trivial, fun _ => ib_ok _ _ _⟩, fun h => absurd h (by decide), fun _ => trivial⟩ | exact ⟨fun h => absurd h (by decide), fun _ => ⟨fun h => absurd h (by decide), fun _ => trivial⟩⟩ | exact ⟨fun _ => ⟨fun h => absurd h (by decide), fun _ => trivial⟩, fun h => absurd rfl h⟩ | exact ⟨fun _ => ⟨fun h => absurd h (by decide), fun _ => trivial⟩, fun h => absurd trivial h⟩ | skip
    · unfold gX11_send
      rw [e2_0, om_n]
    · unfold gX12_send
      simp only [bvd, e4_0, u2_at, if_false, if_true, reduceIte]
      first | rfl | skip
