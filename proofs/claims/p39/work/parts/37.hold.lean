-- gates in an hour
theorem mo_F (F : jF) (G : jG) (p q : Int32) (x : Int64) : (gX10_move F G p q x).1 = F := by
  unfold gX10_move
  simp only [bvd, bsd, ct_2, ct_3]
  cases gX10_basinAt F G p <;> cases gX10_basinAt F G q <;> simp only [om_n, om_s]
theorem lvo_F (F : jF) (G : jG) (p q : Int32) (m : Int64) : (gX10_levelOut F G p q m).2.1 = F := by
  have key : ∀ (x : Int64) (a c : Int32), (if 0 < x then bs (gX10_move F G a c x) (fun (F19 : jF) (G20 : jG) => (x, (F19, G20))) else (0, (F, G))).2.1 = F := by
    intro x a c
    split
    · rw [bsd]; exact mo_F F G a c x
    · rfl
  unfold gX10_levelOut
  simp only [bvd]
  exact key _ _ _
theorem ab_i {b : Int} {F : jF} {G : jG} (h : wE b F G) {p q : Int32} (hw : wy F p q) : (gX10_above F G p q).toInt = (gX10_heightOf F G p).toInt - (gX10_heightOf F G q).toInt := by
  have bp := ho_b h hw.1
  have bq := ho_b h hw.2.1
  unfold gX10_above
  simp only [bvd]
  exact i64s (by omega) (by omega)
theorem sp_ok {F : jF} {G : jG} (p q : Int32) : okX10_seaPresses F G p q := by
  unfold okX10_seaPresses
  refine ⟨fun _ => ⟨ab_ok p q, ?_⟩, fun _ => ⟨fun _ => ab_ok q p, fun _ => trivial⟩⟩
  rw [bvd]
  exact ⟨fun _ => trivial, fun _ => ⟨fun _ => ab_ok q p, fun _ => trivial⟩⟩
theorem sp_jb (F : jF) (G : jG) (p q : Int32) : jb (gX10_seaPresses F G p q) := by
  unfold gX10_seaPresses
  simp only [bvd]
  repeat' split
  all_goals first | exact Or.inl rfl | exact Or.inr rfl
/-- whether the sea is higher, in both -/
theorem sp_m {b : Int} {F FM : jF} {G GM : jG} (h : wE b F G) (hR : ag shF F FM) (hG : ag shG G GM) {k : Nat} (hk : k < 8) (hw : wy F (F 18 k) (F 19 k)) : gX12_isSeaHigher FM GM (nI k) = gX10_seaPresses F G (F 18 k) (F 19 k) ∧ okX12_isSeaHigher FM GM (nI k) := by
  have h18 := hR.at 18 (by decide)
  have h19 := hR.at 19 (by decide)
  have e1 := ab_i h hw
  have e2 := ab_i h hw.sym
  have z0 : (0 : Int64).toInt = 0 := rfl
  have hv : vp_in (nI k) 8 := nI_vin hk (by omega)
  have hne := hw.2.2.1
  have l1 := lo_m h hR hG hw.1
  have l2 := lo_m h hR hG hw.2.1
  have o1 := lom_ok (GM := GM) h hR hw.1
  have o2 := lom_ok (GM := GM) h hR hw.2.1
  constructor
  · unfold gX12_isSeaHigher gX10_seaPresses
    simp only [bvd, nI_clamp (show k < 2 ^ 31 by omega), h18, h19]
    generalize F 18 k = p at *
    generalize F 19 k = q at *
    by_cases c1 : p = 20
    · have c2 : ¬ q = 20 := fun e => hne (c1.trans e.symm)
      rw [if_pos c1, if_neg c2, if_pos c1, if_neg (show ¬ (1 : Int32) = 0 by decide), if_neg c2, if_pos rfl, ← c1, l1, l2]
      by_cases c3 : 0 < gX10_above F G p q
      · rw [if_pos c3, if_pos (by rw [i64lt, e1, z0] at c3; rw [i64lt]; omega)]
      · rw [if_neg c3, if_neg (by rw [i64lt, e1, z0] at c3; rw [i64lt]; omega)]
    · rw [if_neg c1, if_neg c1, if_pos rfl]
      by_cases c2 : q = 20
      · rw [if_pos c2, if_neg (show ¬ (1 : Int32) = 0 by decide), if_pos c2, ← c2, l1, l2]
        by_cases c3 : gX10_above F G q p ≤ 0
        · rw [if_pos c3, if_pos (by rw [i64le, e2, z0] at c3; rw [i64le]; omega)]
        · rw [if_neg c3, if_neg (by rw [i64le, e2, z0] at c3; rw [i64le]; omega)]
      · rw [if_neg c2, if_pos rfl, if_neg c2]
  · unfold okX12_isSeaHigher
    simp only [bvd, nI_clamp (show k < 2 ^ 31 by omega), h18, h19]
    have o20 : F 18 k = 20 → okX12_levelOf FM GM 20 := fun e => e ▸ o1
    have o20' : F 19 k = 20 → okX12_levelOf FM GM 20 := fun e => e ▸ o2
    generalize F 18 k = p at *
    generalize F 19 k = q at *
    refine ⟨hv, hv, ?_⟩
    by_cases c1 : p = 20
    · have c2 : ¬ q = 20 := fun e => hne (c1.trans e.symm)
      rw [if_pos c1, if_neg c2]
      refine ⟨fun h => absurd h (by decide), fun _ => ⟨o20 c1, hv, o2, fun _ => trivial, fun _ => ⟨fun _ => trivial, fun h => absurd rfl h⟩⟩⟩
    · rw [if_neg c1]
      by_cases c2 : q = 20
      · rw [if_pos c2]
        exact ⟨fun _ => ⟨fun h => absurd h (by decide), fun _ => ⟨o20' c2, hv, o1⟩⟩, fun h => absurd rfl h⟩
      · rw [if_neg c2]
        exact ⟨fun _ => ⟨fun _ => trivial, fun h => absurd rfl h⟩, fun h => absurd rfl h⟩
/-- a gate of the reference in an hour -/
def stGm (i : Nat) (S : jS) : jS := if (u2 S.1 22 i (if gX12_isSeaHigher S.1 S.2 (nI i) = 0 then S.1 22 i else 0)) 22 i = 1 then (gX12_flows (u2 S.1 22 i (if gX12_isSeaHigher S.1 S.2 (nI i) = 0 then S.1 22 i else 0)) S.2 ((u2 S.1 22 i (if gX12_isSeaHigher S.1 S.2 (nI i) = 0 then S.1 22 i else 0)) 18 i) ((u2 S.1 22 i (if gX12_isSeaHigher S.1 S.2 (nI i) = 0 then S.1 22 i else 0)) 19 i) ((u2 S.1 22 i (if gX12_isSeaHigher S.1 S.2 (nI i) = 0 then S.1 22 i else 0)) 20 i).toInt64).2 else ((u2 S.1 22 i (if gX12_isSeaHigher S.1 S.2 (nI i) = 0 then S.1 22 i else 0)), S.2)
theorem RR_22 {b : Int} {c : Nat} {F FM : jF} {G GM : jG} (h : RR b c F G FM GM) {i : Nat} (hi : i < cn F 17) {v : Int32} (hv : jb v) : RR b c (u2 F 22 i v) G (u2 FM 22 i v) GM := by
  obtain ⟨⟨⟨a1, a2, a3, a4, a5, a6⟩, h2⟩, ⟨h3, h4⟩, h5⟩ := h
  obtain ⟨⟨g1, g2, g3⟩, ⟨g4, g5, g6⟩, g7, g8⟩ := h2
  have n1 : wN (u2 F 22 i v) := wN_c (ag_off F (by decide) i v) a1
  refine ⟨⟨⟨n1, wB_c (ag_off F (by decide) i v) rfl (fun _ _ => rfl) a2, wL_c (ag_off F (by decide) i v) a3, wS_c (ag_off F (by decide) i v) a4, wO_c (ag_off F (by decide) i v) a5, wZ_c a1 n1 (ag_off F (by decide) i v) (ag_rf _ G) a6⟩, ⟨⟨fun j => ?_, wP_c (ag_off F (by decide) i v) g2, wD_c (ag_off F (by decide) i v) rfl g3⟩, ⟨wR_c (ag_off F (by decide) i v) g4, wC_c (ag_off F (by decide) i v) g5, wWk_c (ag_off F (by decide) i v) g6⟩, wM_c (ag_off F (by decide) i v) g7, wT_c (u2_other F (by decide) i v) g8⟩⟩, ⟨ag_u2 h3 22 i rfl, h4⟩, rX_c (ag_off F (by decide) i v) (ag_off FM (by decide) i v) rfl rfl h5⟩
  obtain ⟨w1, w2, w3⟩ := g1 j
  rw [cn_of (u2_other F (by decide) i v : u2 F 22 i v 17 = F 17), u2_other F (by decide : 18 ≠ 22) i v, u2_other F (by decide : 19 ≠ 22) i v, u2_other F (by decide : 20 ≠ 22) i v, u2_other F (by decide : 21 ≠ 22) i v, u2_same]
  refine ⟨fun hj => ⟨wy_c (u2_other F (by decide) i v) (w1 hj).1, (w1 hj).2⟩, ?_, fun hj => ?_⟩
  · split
    · exact hv
    · exact w2
  · rw [if_neg (by omega)]; exact w3 hj
theorem pass_m {b : Int} {c : Nat} {F FM : jF} {G GM : jG} (h : RR b c F G FM GM) {i : Nat} (hi : i < cn F 17) : RR b c (gX4_pass F G i).1 (gX4_pass F G i).2 (stGm i (FM, GM)).1 (stGm i (FM, GM)).2 ∧ okX4_pass F G i ∧ (∀ k, k ≠ 22 → (gX4_pass F G i).1 k = F k) := by
  have hE := h.1.1
  have hR := h.2.1.1
  have hG := h.2.1.2
  have hn : cn F 17 ≤ 8 := hE.1.1.2.1.2
  obtain ⟨w1, w2, w3⟩ := h.1.2.1.1 i
  obtain ⟨hw, ⟨hm0, hm1⟩, -⟩ := w1 hi
  obtain ⟨s1, s2⟩ := sp_m hE hR hG (by omega) hw
  have r22 := hR.at 22 (by decide)
  have r18 := hR.at 18 (by decide)
  have r19 := hR.at 19 (by decide)
  have r20 := hR.at 20 (by decide)
  have hok : okX4_pass F G i := by
    unfold okX4_pass
    simp only [bvd]
    refine ⟨hi, fun e => ⟨hi, fun _ => trivial, fun e2 => absurd e e2⟩, fun e => ⟨hi, hi, sp_ok _ _, fun _ => ⟨hi, fun _ => trivial, fun _ => ⟨hi, hi, hi, lvo_ok _ _ _⟩⟩, fun _ => ⟨hi, ?_⟩⟩⟩
    have hc : cn (u2 F 22 i 0) 17 = cn F 17 := cn_of (u2_other F (by decide) i 0)
    rw [hc]
    exact ⟨hi, fun _ => trivial, fun _ => ⟨hi, hi, hi, lvo_ok _ _ _⟩⟩
  have z1 : (1 : Int32) ≠ 0 := by decide
  refine ⟨?_, hok, ?_⟩
  all_goals unfold gX4_pass
  · unfold stGm
    simp only [bvd, brd]
    rw [s1, r22]
    rcases w2 with c0 | c1
    · -- shut
      rw [if_pos c0, if_pos c0]
      have e0 : (if gX10_seaPresses F G (F 18 i) (F 19 i) = 0 then F 22 i else 0) = 0 := by
        split
        · exact c0
        · rfl
      rw [e0]
      have e1 : u2 FM 22 i 0 = FM := by
        have := u2_id FM 22 i
        rwa [r22, c0] at this
      rw [e1, r22, c0, if_neg (fun e => z1 e.symm)]
      exact h
    · rw [if_neg (by rw [c1]; exact z1)]
      rcases sp_jb F G (F 18 i) (F 19 i) with p0 | p1
      · -- open, and the sea does not press
        rw [if_pos p0, if_neg (by rw [c1]; exact z1)]
        rw [if_pos p0]
        have e1 : u2 FM 22 i (F 22 i) = FM := by
          have := u2_id FM 22 i
          rwa [r22] at this
        rw [e1, r22, if_pos c1, r18, r19, r20]
        obtain ⟨x, G1, GM1, f1, f2, f3, f4, f5, f6, f7, f8⟩ := flow_m hE hR hG hw (F 20 i).toInt64 (by rw [i3264]; omega) (by rw [i3264]; omega)
        rw [f1, f2]
        exact RR_flow h f5 f6 f7 f4
      · -- the sea presses
        rw [if_neg (by rw [p1]; exact z1), u2_at, if_pos rfl]
        rw [if_neg (show ¬ gX10_seaPresses F G (F 18 i) (F 19 i) = 0 by rw [p1]; exact z1), u2_at, if_neg (fun e => z1 e.symm)]
        exact RR_22 h hi (Or.inl rfl)
  · intro k hk
    simp only [bvd, brd]
    repeat' split
    all_goals first | rfl | rw [lvo_F] | exact u2_other F hk i 0
    all_goals first | rfl | exact u2_other F hk i 0
