-- command
theorem lw_m {b : Int} {F : jF} {G : jG} (h : wE b F G) {j : Nat} (hw : wy F (F 18 j) (F 19 j)) {x : Int64} (hx : x = gX10_above F G (F 18 j) (F 19 j)) {v : Int32} (hv : v = if x ≤ 0 then (if 0 ≤ x then (-1) else F 18 j) else F 19 j) : gX4_lowerHasWorth F G j = (if v = (-1) then 0 else if 20 ≤ v then 0 else if F 13 v.toNatClampNeg ≤ 0 then 0 else 1) ∧ (¬ v = (-1) → ¬ 20 ≤ v → vp_in v 8) := by
  have hn := h.1.1.1.2
  have z0 : (0 : Int64).toInt = 0 := rfl
  have key : ∀ p : Int32, eo F p → (bv (gX10_basinAt F G p) (fun o11 : Option Nat => om o11 0 (fun k12 : Nat => (if (F 13 k12) ≤ 0 then (0 : Int32) else 1)))) = (if p = (-1) then 0 else if 20 ≤ p then 0 else if F 13 p.toNatClampNeg ≤ 0 then 0 else 1) ∧ (¬ p = (-1) → ¬ 20 ≤ p → vp_in p 8) := by
    intro p hp
    rcases hp with rfl | rfl | ⟨i, hi, rfl⟩
    · exact ⟨rfl, fun _ h => absurd (by decide) h⟩
    · exact ⟨rfl, fun _ h => absurd (by decide) h⟩
    · have hm : ¬ nI i = -1 := by rw [i32eq, nI_toInt (by omega), show (-1 : Int32).toInt = -1 from rfl]; omega
      rw [ba_in G hn hi, bvd, om_s, if_neg hm, if_neg (ge20 (by omega)), nI_clamp (by omega)]
      exact ⟨rfl, fun _ _ => nI_vin (by omega) (by omega)⟩
  unfold gX4_lowerHasWorth
  rw [bvd, ← hx, hv]
  by_cases c1 : x ≤ 0
  · rw [if_pos c1, if_pos c1]
    by_cases c2 : 0 ≤ x
    · have e0 : x = 0 := by rw [i64le, z0] at c1 c2; rw [i64eq, z0]; omega
      rw [if_pos c2, if_pos e0]
      exact ⟨rfl, fun h => absurd rfl h⟩
    · have e0 : ¬ x = 0 := by rw [i64le, z0] at c1 c2; rw [i64eq, z0]; omega
      rw [if_neg c2, if_neg e0, bvd]
      exact key _ hw.1
  · have e0 : ¬ x = 0 := by rw [i64le, z0] at c1; rw [i64eq, z0]; omega
    rw [if_neg c1, if_neg c1, if_neg e0, bvd]
    exact key _ hw.2.1
def obC (F : jF) (G : jG) (j : Nat) (p2 p3 : Int32) : Int32 := if F 21 j ≤ p3 then (if p2 = 0 then 0 else if gX10_seaPresses F G (F 18 j) (F 19 j) = 0 then (if 3 ≤ p3 then 0 else if gX4_lowerHasWorth F G j = 0 then 0 else 3) else 2) else 1
theorem obC_v (F : jF) (G : jG) (j : Nat) (p2 p3 : Int32) : obC F G j p2 p3 = 0 ∨ obC F G j p2 p3 = 1 ∨ obC F G j p2 p3 = 2 ∨ obC F G j p2 p3 = 3 := by
  unfold obC
  split
  · split
    · exact Or.inl rfl
    · split
      · split
        · exact Or.inl rfl
        · split
          · exact Or.inl rfl
          · exact Or.inr (Or.inr (Or.inr rfl))
      · exact Or.inr (Or.inr (Or.inl rfl))
  · exact Or.inr (Or.inl rfl)
theorem ob_1 (F : jF) (G : jG) {j : Nat} (hj : j < cn F 17) (p2 p3 : Int32) : gX4_obey F G j (if p2 = 0 then (0 : Int32) else 1) p3 = (if obC F G j p2 p3 = 0 then (0, (u2 F 22 j (if p2 = 0 then (0 : Int32) else 1), G)) else (obC F G j p2 p3, (F, G))) ∧ okX4_obey F G j (if p2 = 0 then (0 : Int32) else 1) p3 := by
  have n1 : ¬ (1 : Int32) = 0 := by decide
  have n2 : ¬ (2 : Int32) = 0 := by decide
  have n3 : ¬ (3 : Int32) = 0 := by decide
  constructor
  · unfold gX4_obey obC
    simp only [bvd]
    by_cases c1 : F 21 j ≤ p3
    · rw [if_pos c1, if_pos c1]
      by_cases c2 : p2 = 0
      · rw [if_pos c2, if_pos rfl, if_pos rfl, if_pos c2, if_pos rfl]
      · rw [if_neg c2, if_neg c2, if_neg n1, if_neg n1]
        by_cases c3 : gX10_seaPresses F G (F 18 j) (F 19 j) = 0
        · rw [if_pos c3, if_pos c3]
          by_cases c4 : 3 ≤ p3
          · rw [if_pos c4, if_pos c4, if_pos rfl]
          · rw [if_neg c4, if_neg c4]
            by_cases c5 : gX4_lowerHasWorth F G j = 0
            · rw [if_pos c5, if_pos c5, if_pos rfl]
            · rw [if_neg c5, if_neg c5, if_neg n3]
        · rw [if_neg c3, if_neg c3, if_neg n2]
    · rw [if_neg c1, if_neg c1, if_neg n1]
  · have hjb : jb (if p2 = 0 then (0 : Int32) else 1) := by split; exact Or.inl rfl; exact Or.inr rfl
    have hlo : okX4_lowerHasWorth F G j := by
      unfold okX4_lowerHasWorth
      refine ⟨hj, hj, ab_ok _ _, ?_⟩
      rw [bvd]
      refine ⟨fun _ => trivial, fun _ => ⟨⟨fun _ => hj, fun _ => hj⟩, ?_⟩⟩
      rw [bvd]
      refine ⟨ba_ok _, ?_⟩
      rw [bvd]
      rcases hq : gX10_basinAt F G (if gX10_above F G (F 18 j) (F 19 j) ≤ 0 then F 18 j else F 19 j) with _ | k
      · trivial
      · exact ba_lt hq
    have tail : ((if p2 = 0 then (0 : Int32) else 1) = 0 → (jb (if p2 = 0 then (0 : Int32) else 1) ∧ j < cn F 17)) ∧ (¬ (if p2 = 0 then (0 : Int32) else 1) = 0 → ((3 ≤ p3 → (jb (if p2 = 0 then (0 : Int32) else 1) ∧ j < cn F 17)) ∧ (¬ 3 ≤ p3 → (j < cn F 17 ∧ (okX4_lowerHasWorth F G j ∧ bv (gX4_lowerHasWorth F G j) (fun x16 : Int32 => ((x16 = 0 → (jb (if p2 = 0 then (0 : Int32) else 1) ∧ j < cn F 17)) ∧ (¬ x16 = 0 → True)))))))) := ⟨fun _ => ⟨hjb, hj⟩, fun _ => ⟨fun _ => ⟨hjb, hj⟩, fun _ => ⟨hj, hlo, by rw [bvd]; exact ⟨fun _ => ⟨hjb, hj⟩, fun _ => trivial⟩⟩⟩⟩
    unfold okX4_obey
    refine ⟨hj, fun _ => ⟨fun _ => tail, fun _ => ⟨hj, hj, sp_ok _ _, ?_⟩⟩, fun _ => trivial⟩
    rw [bvd]
    exact ⟨fun _ => tail, fun _ => trivial⟩
theorem cm_1 {b : Int} {c : Nat} {F FM : jF} {G GM : jG} (h : RR b c F G FM GM) {j : Nat} (hj : j < cn F 17) (p2 p3 : Int32) (a1 : gX12_in (nI j) 0 (FM 17 0 - 1) = 1) (a2 : gX12_in p3 0 3 = 1) : gX12_command FM GM (nI j) p2 p3 = (if obC F G j p2 p3 = 0 then (0, (u2 (u2 FM 60 0 0) 22 j (if p2 = 0 then (0 : Int32) else 1), GM)) else (obC F G j p2 p3, (u2 FM 60 0 0, GM))) ∧ okX12_command FM GM (nI j) p2 p3 := by
  have n1 : ¬ (1 : Int32) = 0 := by decide
  have n2 : ¬ (2 : Int32) = 0 := by decide
  have n3 : ¬ (3 : Int32) = 0 := by decide
  have hE := h.1.1
  have hG := h.2.1.2
  have hj8 : cn F 17 ≤ 8 := h.1.1.1.1.2.1.2
  have hw := ((h.1.2.1.1 j).1 hj).1
  have hv : vp_in (nI j) 8 := nI_vin (by omega) (by omega)
  have ecl : (nI j).toNatClampNeg = j := nI_clamp (by omega)
  obtain ⟨F6, hF6⟩ : ∃ F6, F6 = u2 FM 60 0 0 := ⟨_, rfl⟩
  have hR6 : ag shF F F6 := by rw [hF6]; exact ag_tr h.2.1.1 (ag_off FM (by decide) 0 0)
  have e60 : F6 60 0 = 0 := by rw [hF6, u2_at]
  obtain ⟨s1, s2⟩ := sp_m hE hR6 hG (show j < 8 by omega) hw
  have l1 := lo_m hE hR6 hG hw.1
  have l2 := lo_m hE hR6 hG hw.2.1
  have o1 := lom_ok (GM := GM) hE hR6 hw.1
  have o2 := lom_ok (GM := GM) hE hR6 hw.2.1
  have r18 := hR6.at 18 (by decide)
  have r19 := hR6.at 19 (by decide)
  have r21 := hR6.at 21 (by decide)
  have r13 := hR6.at 13 (by decide)
  obtain ⟨x, hx⟩ : ∃ x, x = gX10_above F G (F 18 j) (F 19 j) := ⟨_, rfl⟩
  have hx2 : gX10_heightOf F G (F 18 j) - gX10_heightOf F G (F 19 j) = x := by rw [hx]; rfl
  obtain ⟨v, hvd⟩ : ∃ v, v = (if x ≤ 0 then (if 0 ≤ x then (-1) else F 18 j) else F 19 j) := ⟨_, rfl⟩
  obtain ⟨w1, w2⟩ := lw_m hE hw hx hvd
  constructor
  · unfold gX12_command
    simp only [bvd, a1, a2]
    rw [if_neg n1, if_neg n1, ← hF6, ecl, e60, if_pos (by decide), r21, r18, r19, r13, l1, l2, hx2, ← hvd]
    unfold obC
    rw [w1]
    by_cases c1 : F 21 j ≤ p3
    · rw [if_pos c1, if_pos c1]
      by_cases c2 : p2 = 0
      · simp only [if_pos c2]
        rfl
      · simp only [if_neg c2]
        rw [s1]
        by_cases c3 : gX10_seaPresses F G (F 18 j) (F 19 j) = 0
        · rw [if_pos c3, if_pos c3]
          by_cases c4 : 3 ≤ p3
          · simp only [if_pos c4, ite_self]
            rfl
          · simp only [if_neg c4]
            by_cases c5 : v = -1
            · simp only [if_pos c5]
              rfl
            · simp only [if_neg c5]
              by_cases c6 : 20 ≤ v
              · simp only [if_pos c6]
                rfl
              · simp only [if_neg c6]
                by_cases c7 : F 13 v.toNatClampNeg ≤ 0
                · simp only [if_pos c7]
                  rfl
                · simp only [if_neg c7]
                  rfl
        · rw [if_neg c3, if_neg c3, if_neg n2]
    · rw [if_neg c1, if_neg c1, if_neg n1]
  · unfold okX12_command
    simp only [bvd, a1, a2]
    rw [if_neg n1, if_neg n1, ← hF6, ecl, r18, r19, l1, l2, hx2, ← hvd]
    have tl : vp_in (nI j) 8 ∧ (okX12_levelOf F6 GM (F 18 j) ∧ (vp_in (nI j) 8 ∧ (okX12_levelOf F6 GM (F 19 j) ∧ (((x ≤ 0 → ((0 ≤ x → True) ∧ (¬ 0 ≤ x → (vp_in (nI j) 8)))) ∧ (¬ x ≤ 0 → (vp_in (nI j) 8))) ∧ ((p2 = 0 → vp_in (nI j) 8) ∧ (¬ p2 = 0 → ((v = (-1) → vp_in (nI j) 8) ∧ (¬ v = (-1) → ((20 ≤ v → vp_in (nI j) 8) ∧ (¬ 20 ≤ v → (vp_in v 8 ∧ (((F6 13 (Int32.toNatClampNeg v)) ≤ 0 → vp_in (nI j) 8) ∧ (¬ (F6 13 (Int32.toNatClampNeg v)) ≤ 0 → ((3 ≤ p3 → vp_in (nI j) 8) ∧ (¬ 3 ≤ p3 → True))))))))))))))) := ⟨hv, o1, hv, o2, ⟨fun _ => ⟨fun _ => trivial, fun _ => hv⟩, fun _ => hv⟩, fun _ => hv, fun _ => ⟨fun _ => hv, fun q1 => ⟨fun _ => hv, fun q2 => ⟨w2 q1 q2, fun _ => hv, fun _ => ⟨fun _ => hv, fun _ => trivial⟩⟩⟩⟩⟩
    exact ⟨fun _ => ⟨hv, fun _ => ⟨fun _ => tl, fun _ => ⟨s2, fun _ => tl, fun _ => trivial⟩⟩, fun _ => trivial⟩, fun _ => trivial⟩
theorem fm_command {n : Nat} {F F2 : jF} {G G2 : jG} {M FM : jF} {GM : jG} (h : Iv n F G F2 G2 M FM GM) (hn : n < 512) (p1 p2 p3 : Int32) : okX11_command F G M p1 p2 p3 ∧ okX12_command FM GM p1 p2 p3 ∧ rM n F G F2 G2 M FM GM (fun x : Int32 => x.toInt64) (fun x : Int32 => x.toInt64) (wk 1 2 9) [1, 2] (gX11_command F G M p1 p2 p3) (gX12_command FM GM p1 p2 p3) := by
  have hr0 := Iv_rr h hn 0
  have hrb := (Iv_b h).1
  have hN := hrb.1.1.1
  have hR := hrb.2.1.1
  have hG := hrb.2.1.2
  rcases gt_c G hN hR p1 with ⟨j0, hj0, hj8_0, e1_0, e2_0, e3_0, e4_0⟩ | ⟨e2_0, e3_0, e4_0⟩
  · skip
    rcases nr_c p3 0 3 with ⟨a1_1, a2_1, a3_1, a4_1⟩ | ⟨a1_1, a2_1⟩
    · skip
      obtain ⟨cc, hcc⟩ : ∃ cc, cc = obC F G j0 p2 p3 := ⟨_, rfl⟩
      obtain ⟨Fv, hFv⟩ : ∃ Fv, Fv = (if cc = 0 then u2 F 22 j0 (if p2 = 0 then (0 : Int32) else 1) else F) := ⟨_, rfl⟩
      obtain ⟨FMv, hFMv⟩ : ∃ FMv, FMv = (if cc = 0 then u2 (u2 FM 60 0 0) 22 j0 (if p2 = 0 then (0 : Int32) else 1) else u2 FM 60 0 0) := ⟨_, rfl⟩
      have hjb : jb (if p2 = 0 then (0 : Int32) else 1) := by split; exact Or.inl rfl; exact Or.inr rfl
      obtain ⟨b1, b2⟩ := ob_1 F G hj0 p2 p3
      obtain ⟨d1, d2⟩ := cm_1 hrb hj0 p2 p3 (by rw [← e1_0]; exact e4_0) a2_1
      rw [← hcc] at b1 d1
      rw [← e1_0] at d1 d2
      have b3 : gX4_obey F G j0 (if p2 = 0 then (0 : Int32) else 1) p3 = (cc, (Fv, G)) := by rw [b1, hFv]; by_cases q : cc = 0; rw [if_pos q, if_pos q, q]; rw [if_neg q, if_neg q]
      have d3 : gX12_command FM GM p1 p2 p3 = (cc, (FMv, GM)) := by rw [d1, hFMv]; by_cases q : cc = 0; rw [if_pos q, if_pos q, q]; rw [if_neg q, if_neg q]
      have hrr : RR (1000000 * ((n + 1 : Nat) : Int) + 119988 * (cn F 0 : Int)) (n + 1) Fv G FMv GM := by rw [hFv, hFMv]; by_cases q : cc = 0; rw [if_pos q, if_pos q]; exact RR_22 hr0 hj0 hjb; rw [if_neg q, if_neg q]; exact hr0
      have h0 : cn Fv 0 = cn F 0 := by rw [hFv]; split; exact cn_of (u2_other F (by decide : 0 ≠ 22) _ _); rfl
      have evv : (if (if p2 = 0 then (0 : Int32) else 1) = 0 then (0 : Int32) else 1) = (if p2 = 0 then (0 : Int32) else 1) := by by_cases cc : p2 = 0; rw [if_pos cc, if_pos rfl]; rw [if_neg cc, if_neg (by decide)]
      have hs : gX5_order F G (gX5_gateAt F G p1) (if p2 = 0 then (0 : Int32) else 1) p3 = (cc, (Fv, G)) := by unfold gX5_order; rw [e3_0, om_s, b3, brd]
      have hso : okX5_order F G (gX5_gateAt F G p1) (if p2 = 0 then (0 : Int32) else 1) p3 := by unfold okX5_order; rw [e3_0, om_s]; exact ⟨hj0, b2⟩
      obtain ⟨M1, m1, m2, m3, m4⟩ := Iv_act (F1 := Fv) (G1 := G) h hn 11 p1 (if p2 = 0 then (0 : Int32) else 1) p3 0 0 (ov_11 (by rw [evv]; exact ⟨ga_ok2 _, hso⟩)) (by rw [ac_11, evv, hs]) (by rw [h0]; exact hrr)
      refine ⟨?_, ?_, Or.inl ⟨cc, _, _, M1, cc, _, _, ?_, ?_, ?_, ?_, m4⟩⟩
      · unfold okX11_command
        refine ⟨ga_ok2 _, ?_⟩
        rw [e2_0, om_s]
        rw [bvd]; intro _
        rw [bvd]
        refine ⟨(m1 _).2, ?_⟩
        rw [(m1 _).1, brd]; exact m3
      · unfold okX12_command
        exact d2
      · unfold gX11_command
        rw [e2_0, om_s, bvd, a1_1, if_pos rfl, bvd, (m1 _).1, brd, brd]
        show (0, (Int64.toInt32 (gX5_act F G (M1 82) (nI (6 * (M 80 0).toNatClampNeg))).1, ((gX5_act F G (M1 82) (nI (6 * (M 80 0).toNatClampNeg))).2, M1))) = _
        rw [m2, ac_11, evv, hs, ti32]
      · unfold gX12_command
        exact d3
      · rw [hFMv]; split; rw [u2_other _ (by decide : 60 ≠ 22), u2_at]; rw [u2_at]
      · rfl
    · refine ⟨?_, ?_, Or.inr ⟨2, 0, 0, 2, by decide, ?_, ?_, rfl⟩⟩
      · unfold okX11_command
        refine ⟨ga_ok2 _, ?_⟩
        rw [e2_0, om_s]
        rw [bvd]; intro e; rw [a1_1] at e; exact absurd e (by decide)
      · unfold okX12_command
        simp only [bvd, e4_0, a2_1, u2_at, if_false, if_true, reduceIte]
        first | exact ⟨fun h => absurd h (by decide), fun _ => trivial⟩ | exact fun h => absurd h (by decide) | exact ⟨⟨fun _ => trivial, fun _ => ib_ok _ _ _⟩, fun h => absurd h (by decide), fun _ => trivial⟩ | exact ⟨fun h => absurd h (by decide), fun _ => ⟨fun h => absurd h (by decide), fun _ => trivial⟩⟩ | exact ⟨fun _ => ⟨fun h => absurd h (by decide), fun _ => trivial⟩, fun h => absurd rfl h⟩ | exact ⟨fun _ => ⟨fun h => absurd h (by decide), fun _ => trivial⟩, fun h => absurd trivial h⟩ | skip
      · unfold gX11_command
        rw [e2_0, om_s, bvd, a1_1, if_neg (by decide)]
      · unfold gX12_command
        simp only [bvd, e4_0, a2_1, u2_at, if_false, if_true, reduceIte]
        first | rfl | skip
  · refine ⟨?_, ?_, Or.inr ⟨1, 0, 0, 1, by decide, ?_, ?_, rfl⟩⟩
    · unfold okX11_command
      refine ⟨ga_ok2 _, ?_⟩
      rw [e2_0, om_n]; trivial
    · unfold okX12_command
      simp only [bvd, e4_0, u2_at, if_false, if_true, reduceIte]
      first | exact ⟨fun h => absurd h (by decide), fun _ => trivial⟩ | exact fun h => absurd h (by decide) | exact ⟨⟨fun _ => trivial, fun _ => ib_ok _ _ _⟩, fun h => absurd h (by decide), fun _ => trivial⟩ | exact ⟨fun h => absurd h (by decide), fun _ => ⟨fun h => absurd h (by decide), fun _ => trivial⟩⟩ | exact ⟨fun _ => ⟨fun h => absurd h (by decide), fun _ => trivial⟩, fun h => absurd rfl h⟩ | exact ⟨fun _ => ⟨fun h => absurd h (by decide), fun _ => trivial⟩, fun h => absurd trivial h⟩ | skip
    · unfold gX11_command
      rw [e2_0, om_n]
    · unfold gX12_command
      simp only [bvd, e4_0, u2_at, if_false, if_true, reduceIte]
      first | rfl | skip
