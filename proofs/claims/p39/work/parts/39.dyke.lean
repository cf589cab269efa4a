-- dykes in an hour
/-- water over the crest -/
theorem fo_m {b : Int} {F FM : jF} {G GM : jG} (h : wE b F G) (hR : ag shF F FM) (hG : ag shG G GM) {i : Nat} (hi : i < cn F 32) (hi8 : i < 8) (hw : wy F (F 33 i) (F 34 i)) : ∃ x G1 GM1, gX3_flowsOver F G i = ((if x ≤ 0 then 0 else 1), (F, G1)) ∧ gX12_flowsOver FM GM (nI i) = (x, (FM, GM1)) ∧ 0 ≤ x.toInt ∧ ag shG G1 GM1 ∧ (∀ k, k ≠ 14 → k ≠ 56 → G1 k = G k ∧ GM1 k = GM k) ∧ (∀ i, cn F 8 ≤ i → G1 14 i = G 14 i) ∧ wL b F G1 ∧ okX3_flowsOver F G i ∧ okX12_flowsOver FM GM (nI i) := by
  have r33 := hR.at 33 (by decide)
  have r34 := hR.at 34 (by decide)
  have r35 := hR.at 35 (by decide)
  have r9 := hR.at 9 (by decide)
  have z0 : (0 : Int64).toInt = 0 := rfl
  have z500 : (500 : Int64).toInt = 500 := rfl
  have hv : vp_in (nI i) 8 := nI_vin hi8 (by omega)
  have hn8 := h.1.1.1.2
  have e1 := ab_i h hw
  have l1 := lo_m h hR hG hw.1
  have l2 := lo_m h hR hG hw.2.1
  have o1 := lom_ok (GM := GM) h hR hw.1
  have o2 := lom_ok (GM := GM) h hR hw.2.1
  have hokc : okX3_flowsOver F G i := by
    unfold okX3_flowsOver
    simp only [bvd]
    refine ⟨hi, hi, ab_ok _ _, ⟨fun _ => hi, fun _ => hi⟩, ho_ok _, hi, fun _ => ⟨ba_ok _, ?_⟩, fun _ => trivial⟩
    cases hb : gX10_basinAt F G (if gX10_above F G (F 33 i) (F 34 i) < 0 then F 34 i else F 33 i) with
    | none => rw [om_n]; exact ⟨hi, hi, lvo_ok _ _ _⟩
    | some k => rw [om_s]; exact ⟨ba_lt hb, hi, hi, lvo_ok _ _ _⟩
  -- the higher end
  obtain ⟨t, ht, htm, hte⟩ : ∃ t, (if gX10_above F G (F 33 i) (F 34 i) < 0 then F 34 i else F 33 i) = t ∧ (if gX10_heightOf F G (F 33 i) < gX10_heightOf F G (F 34 i) then F 34 i else F 33 i) = t ∧ (t = F 33 i ∨ t = F 34 i) := by
    by_cases c : gX10_above F G (F 33 i) (F 34 i) < 0
    · rw [if_pos c, if_pos (show gX10_heightOf F G (F 33 i) < gX10_heightOf F G (F 34 i) by rw [i64lt, e1, z0] at c; rw [i64lt]; omega)]
      exact ⟨_, rfl, rfl, Or.inr rfl⟩
    · rw [if_neg c, if_neg (show ¬ gX10_heightOf F G (F 33 i) < gX10_heightOf F G (F 34 i) by rw [i64lt, e1, z0] at c; rw [i64lt]; omega)]
      exact ⟨_, rfl, rfl, Or.inl rfl⟩
  have heo : eo F t := by
    rcases hte with e | e
    · rw [e]; exact hw.1
    · rw [e]; exact hw.2.1
  have l3 := lo_m h hR hG heo
  have o3 := lom_ok (GM := GM) h hR heo
  have bt := ho_b h heo
  have hcr := Int32.le_toInt (F 35 i)
  have hcr2 := Int32.toInt_lt (F 35 i)
  have em : (100 * (F 35 i).toInt64).toInt = 100 * (F 35 i).toInt := by rw [i64m (by rw [c100, i3264]; omega) (by rw [c100, i3264]; omega), c100, i3264]
  have ed : (gX10_heightOf F G t - 100 * (F 35 i).toInt64).toInt = (gX10_heightOf F G t).toInt - 100 * (F 35 i).toInt := by rw [i64s (by rw [em]; omega) (by rw [em]; omega), em]
  -- what may flow over
  obtain ⟨m, hm0, hm1, hmc, hmm⟩ : ∃ m : Int64, (0 < gX10_heightOf F G t - 100 * (F 35 i).toInt64 → 0 ≤ m.toInt) ∧ (0 < gX10_heightOf F G t - 100 * (F 35 i).toInt64 → m.toInt ≤ 500) ∧ (gX10_basinAt F G t = none ∧ m = 500 ∨ ∃ k, gX10_basinAt F G t = some k ∧ k < cn F 8 ∧ t = nI k ∧ (if (gX10_heightOf F G t - 100 * (F 35 i).toInt64) * (F 9 k).toInt64 / 100 < 500 then (gX10_heightOf F G t - 100 * (F 35 i).toInt64) * (F 9 k).toInt64 / 100 else 500) = m) ∧ (if (500 : Int64) ≤ (if (20 : Int32) ≤ t then 500 else (gX10_heightOf F G t - 100 * (F 35 i).toInt64) * (F 9 t.toNatClampNeg).toInt64 / 100) then 500 else (if (20 : Int32) ≤ t then 500 else (gX10_heightOf F G t - 100 * (F 35 i).toInt64) * (F 9 t.toNatClampNeg).toInt64 / 100)) = m := by
    have hout : t = 20 ∨ t = 21 → gX10_basinAt F G t = none ∧ (20 : Int32) ≤ t := fun e => by rcases e with e | e <;> rw [e] <;> exact ⟨rfl, by decide⟩
    have hou2 : t = 20 ∨ t = 21 → ∃ m : Int64, (0 < gX10_heightOf F G t - 100 * (F 35 i).toInt64 → 0 ≤ m.toInt) ∧ (0 < gX10_heightOf F G t - 100 * (F 35 i).toInt64 → m.toInt ≤ 500) ∧ (gX10_basinAt F G t = none ∧ m = 500 ∨ ∃ k, gX10_basinAt F G t = some k ∧ k < cn F 8 ∧ t = nI k ∧ (if (gX10_heightOf F G t - 100 * (F 35 i).toInt64) * (F 9 k).toInt64 / 100 < 500 then (gX10_heightOf F G t - 100 * (F 35 i).toInt64) * (F 9 k).toInt64 / 100 else 500) = m) ∧ (if (500 : Int64) ≤ (if (20 : Int32) ≤ t then 500 else (gX10_heightOf F G t - 100 * (F 35 i).toInt64) * (F 9 t.toNatClampNeg).toInt64 / 100) then 500 else (if (20 : Int32) ≤ t then 500 else (gX10_heightOf F G t - 100 * (F 35 i).toInt64) * (F 9 t.toNatClampNeg).toInt64 / 100)) = m := fun e => by
      obtain ⟨e2, e3⟩ := hout e
      refine ⟨500, fun _ => by rw [z500]; omega, fun _ => by rw [z500]; omega, Or.inl ⟨e2, rfl⟩, ?_⟩
      rw [if_pos e3, if_pos (show (500 : Int64) ≤ 500 by decide)]
    rcases heo with e | e | ⟨k, hk, e⟩
    · exact hou2 (Or.inl e)
    · exact hou2 (Or.inr e)
    · have hb : gX10_basinAt F G t = some k := by rw [e]; exact ba_in G hn8 hk
      have e20 : ¬ (20 : Int32) ≤ t := by rw [e]; exact ge20 (by omega)
      have ecl : t.toNatClampNeg = k := by rw [e]; exact nI_clamp (by omega)
      obtain ⟨⟨a1, a2⟩, -⟩ := (h.2.1 k).1 hk
      rw [if_neg e20, ecl]
      generalize hq : (gX10_heightOf F G t - 100 * (F 35 i).toInt64) * (F 9 k).toInt64 / 100 = q
      have hq0 : 0 < gX10_heightOf F G t - 100 * (F 35 i).toInt64 → 0 ≤ q.toInt := fun h0 => by
        rw [i64lt, z0, ed] at h0
        have q1 : 0 ≤ ((gX10_heightOf F G t).toInt - 100 * (F 35 i).toInt) * (F 9 k).toInt := Int.mul_nonneg (by omega) (by omega)
        have q2 : ((gX10_heightOf F G t).toInt - 100 * (F 35 i).toInt) * (F 9 k).toInt ≤ 1000000000000 * 100 := Int.le_trans (Int.mul_le_mul_of_nonneg_right (by omega) (by omega)) (Int.mul_le_mul_of_nonneg_left a2 (by omega))
        have f1 : ((gX10_heightOf F G t - 100 * (F 35 i).toInt64) * (F 9 k).toInt64).toInt = ((gX10_heightOf F G t).toInt - 100 * (F 35 i).toInt) * (F 9 k).toInt := by rw [i64m (by rw [ed, i3264]; omega) (by rw [ed, i3264]; omega), ed, i3264]
        rw [← hq, i64d (by rw [f1]; omega) (by rw [c100]; omega), f1, c100]
        exact Int.ediv_nonneg q1 (by omega)
      refine ⟨if q < 500 then q else 500, ?_, ?_, Or.inr ⟨k, hb, hk, e, by rw [hq]⟩, ?_⟩
      · intro h0
        split
        · exact hq0 h0
        · rw [z500]; omega
      · intro h0
        split
        · rename_i c; rw [i64lt, z500] at c; omega
        · rw [z500]; omega
      · by_cases c : q < 500
        · rw [if_pos c, if_neg (show ¬ (500 : Int64) ≤ q by rw [i64le, z500]; rw [i64lt, z500] at c; omega)]
        · rw [if_neg c, if_pos (show (500 : Int64) ≤ q by rw [i64le, z500]; rw [i64lt, z500] at c; omega)]
  by_cases c0 : 0 < gX10_heightOf F G t - 100 * (F 35 i).toInt64
  · obtain ⟨x, G1, GM1, f1, f2, f3, f4, f5, f6, f7, f8⟩ := flow_m h hR hG hw m (hm0 c0) (by have := hm1 c0; omega)
    refine ⟨x, G1, GM1, ?_, ?_, f3, f4, f5, f6, f7, hokc, ?_⟩
    · have hfin : ∀ y : Int64, (if y ≤ 0 then ((0 : Int32), (F, G1)) else (1, (F, G1))) = ((if y ≤ 0 then 0 else 1), (F, G1)) := fun y => by split <;> rfl
      unfold gX3_flowsOver
      simp only [bvd, ht]
      rw [if_pos c0]
      rcases hmc with ⟨e2, e3⟩ | ⟨k, e2, e3, e4, e5⟩
      · rw [e2, om_n, ← e3, f1]
        simp only [brd]
        exact hfin x
      · rw [e2, om_s]
        simp only [e5]
        rw [f1]
        simp only [brd]
        exact hfin x
    · unfold gX12_flowsOver
      simp only [bvd, nI_clamp (show i < 2 ^ 31 by omega), r33, r34, r35, r9, l1, l2, htm, l3]
      rw [if_pos c0, hmm, f2]
      simp only [brd]
    · unfold okX12_flowsOver
      simp only [bvd, nI_clamp (show i < 2 ^ 31 by omega), r33, r34, r35, r9, l1, l2, htm, l3]
      refine ⟨hv, hv, o1, o2, o3, hv, fun _ => ⟨⟨fun _ => trivial, fun hno => ?_⟩, by rw [hmm]; exact f8⟩, fun _ => trivial⟩
      rcases hmc with ⟨e2, -⟩ | ⟨k, -, e3, e4, -⟩
      · rcases heo with e | e | ⟨k, hk, e⟩
        · rw [e] at hno; exact absurd (by decide) hno
        · rw [e] at hno; exact absurd (by decide) hno
        · rw [e]; exact nI_vin (by omega) (by omega)
      · rw [e4]; exact nI_vin (by omega) (by omega)
  · refine ⟨0, G, GM, ?_, ?_, by rw [z0]; omega, hG, fun _ _ _ => ⟨rfl, rfl⟩, fun _ _ => rfl, h.2.2.1, hokc, ?_⟩
    · unfold gX3_flowsOver
      simp only [bvd, ht]
      rw [if_neg c0]
      rfl
    · unfold gX12_flowsOver
      simp only [bvd, nI_clamp (show i < 2 ^ 31 by omega), r33, r34, r35, r9, l1, l2, htm, l3]
      rw [if_neg c0]
    · unfold okX12_flowsOver
      simp only [bvd, nI_clamp (show i < 2 ^ 31 by omega), r33, r34, r35, r9, l1, l2, htm, l3]
      exact ⟨hv, hv, o1, o2, o3, hv, fun h => absurd h c0, fun _ => trivial⟩
theorem u2_u2 {α : Type} (F : Nat → Nat → α) (k i : Nat) (v w : α) : u2 (u2 F k i v) k i w = u2 F k i w := by
  funext a j
  by_cases h : a = k
  · subst h; rw [u2_same, u2_same, u2_same]
    by_cases h2 : j = i
    · rw [if_pos h2, if_pos h2]
    · rw [if_neg h2, if_neg h2, if_neg h2]
  · rw [u2_other _ h, u2_other _ h, u2_other _ h]
theorem u2_cm {α : Type} (F : Nat → Nat → α) {k k2 : Nat} (hk : k ≠ k2) (i i2 : Nat) (v w : α) : u2 (u2 F k i v) k2 i2 w = u2 (u2 F k2 i2 w) k i v := by
  funext a
  by_cases h : a = k
  · subst h
    rw [u2_other _ hk]
    funext j
    rw [u2_same, u2_same, u2_other _ hk]
  · rw [u2_other (u2 F k2 i2 w) h]
    by_cases h2 : a = k2
    · subst h2
      funext j
      rw [u2_same, u2_same, u2_other _ h]
    · rw [u2_other _ h2, u2_other _ h, u2_other _ h2]
/-- a dyke's damage and breach -/
theorem RR_39 {b : Int} {c : Nat} {F FM : jF} {G GM : jG} (h : RR b c F G FM GM) {i : Nat} (hi : i < cn F 32) {v d : Int32} {dm : Int64} (hd : d.toInt64 = dm) (hv0 : 0 ≤ v.toInt) (hv1 : v.toInt ≤ 10) (hd0 : 0 ≤ dm.toInt) (hd1 : dm.toInt ≤ 2000000000) (hd2 : v = 0 → dm.toInt ≤ 998) : RR b c (u2 F 39 i v) (u2 G 61 i dm) (u2 (u2 FM 38 i d) 39 i v) GM := by
  obtain ⟨⟨⟨a1, a2, a3, a4, a5, a6⟩, h2⟩, ⟨h3, h4⟩, h5⟩ := h
  obtain ⟨⟨g1, g2, g3⟩, ⟨g4, g5, g6⟩, g7, g8⟩ := h2
  have n1 : wN (u2 F 39 i v) := wN_c (ag_off F (by decide) i v) a1
  refine ⟨⟨⟨n1, wB_c (ag_off F (by decide) i v) (u2_other G (by decide) i dm) (fun j _ => by rw [u2_other G (by decide : 14 ≠ 61)]) a2, ?_, wS_c (ag_off F (by decide) i v) a4, wO_c (ag_off F (by decide) i v) a5, wZ_c a1 n1 (ag_off F (by decide) i v) (ag_off G (by decide) i dm) a6⟩, ⟨⟨wG_c (ag_off F (by decide) i v) g1, wP_c (ag_off F (by decide) i v) g2, fun j => ?_⟩, ⟨wR_c (ag_off F (by decide) i v) g4, wC_c (ag_off F (by decide) i v) g5, wWk_c (ag_off F (by decide) i v) g6⟩, wM_c (ag_off F (by decide) i v) g7, wT_c (u2_other F (by decide) i v) g8⟩⟩, ⟨ag_u2 (ag_tr h3 (ag_off FM (by decide) i d)) 39 i rfl, ?_⟩, ?_⟩
  · have hl := wL_c (F1 := u2 F 39 i v) (ag_off F (by decide) i v) a3
    refine ⟨hl.1, fun j hj => ?_⟩
    have := hl.2 j hj
    unfold lev at *
    rw [u2_other G (by decide : 14 ≠ 61)]
    exact this
  · obtain ⟨w1, w2, w3, w4, w5⟩ := g3 j
    rw [cn_of (u2_other F (by decide) i v : u2 F 39 i v 32 = F 32), u2_other F (by decide : 33 ≠ 39) i v, u2_other F (by decide : 34 ≠ 39) i v, u2_other F (by decide : 36 ≠ 39) i v, u2_other F (by decide : 37 ≠ 39) i v, u2_same, u2_same]
    refine ⟨fun hj => ⟨wy_c (u2_other F (by decide) i v) (w1 hj).1, (w1 hj).2⟩, ?_, ?_, ?_, fun hj => ?_⟩
    · split
      · exact ⟨hv0, hv1⟩
      · exact w2
    · split
      · exact ⟨hd0, hd1⟩
      · exact w3
    · split
      · exact hd2
      · exact w4
    · rw [if_neg (by omega), if_neg (by omega)]; exact w5 hj
  · intro k hk
    rw [u2_other G (fun e => by subst e; revert hk; decide)]
    exact h4 k hk
  · have hx := rX_c (F1 := u2 F 39 i v) (G1 := G) (FM1 := u2 FM 39 i v) (GM1 := GM) (ag_off F (by decide) i v) (ag_off FM (by decide) i v) rfl rfl h5
    rw [u2_cm FM (by decide) i i d v]
    obtain ⟨x1, x2, x3, x4, x5, x6⟩ := hx
    have em : ag [50, 51, 52, 53, 54, 55] (u2 FM 39 i v) (u2 (u2 FM 39 i v) 38 i d) := ag_off _ (by decide) i d
    refine ⟨x1, fun j => ?_, fun j hj => ?_, ?_⟩
    · rw [u2_same, u2_same]
      split
      · exact hd
      · exact x2 j
    · rw [em.at 50 (by decide), em.at 51 (by decide)]; exact x3 j hj
    · rw [em.at 52 (by decide), cn_of (em.at 52 (by decide)), wkM_c (fun k hk => em k (by revert hk; simp; omega))]
      exact ⟨x4, x5, x6⟩
theorem hold_m {b : Int} {c : Nat} {F FM : jF} {G GM : jG} (h : RR b c F G FM GM) {i : Nat} (hi : i < cn F 32) : RR b c (gX3_hold F G i).1 (gX3_hold F G i).2 (gX12_holds FM GM (nI i)).1 (gX12_holds FM GM (nI i)).2 ∧ okX3_hold F G i ∧ okX12_holds FM GM (nI i) ∧ (∀ k, k ≠ 39 → (gX3_hold F G i).1 k = F k) := by
  have hE := h.1.1
  have hR := h.2.1.1
  have hG := h.2.1.2
  have hn : cn F 32 ≤ 8 := hE.1.1.2.2.2.2
  have hn8 : cn F 8 ≤ 8 := hE.1.1.1.2
  obtain ⟨w1, ⟨w2, w2'⟩, ⟨w3, w3'⟩, w4, w5⟩ := h.1.2.1.2.2 i
  obtain ⟨hw, ⟨hs0, hs1⟩, ⟨hp0, hp1⟩⟩ := w1 hi
  have r33 := hR.at 33 (by decide)
  have r34 := hR.at 34 (by decide)
  have r36 := hR.at 36 (by decide)
  have r37 := hR.at 37 (by decide)
  have r39 := hR.at 39 (by decide)
  have r38 := h.2.2.2.1
  have z0 : (0 : Int64).toInt = 0 := rfl
  have z20 : (20 : Int64).toInt = 20 := rfl
  have z50 : (50 : Int64).toInt = 50 := rfl
  have z200 : (200 : Int64).toInt = 200 := rfl
  have z1000 : (1000 : Int64).toInt = 1000 := rfl
  have y0 : (0 : Int32).toInt = 0 := rfl
  have y1 : (1 : Int32).toInt = 1 := rfl
  have y10 : (10 : Int32).toInt = 10 := rfl
  have hv : vp_in (nI i) 8 := nI_vin (by omega) (by omega)
  have ea := ab_i hE hw
  have l1 := lo_m hE hR hG hw.1
  have l2 := lo_m hE hR hG hw.2.1
  have o1 := lom_ok (GM := GM) hE hR hw.1
  have o2 := lom_ok (GM := GM) hE hR hw.2.1
  have bp := ho_b hE hw.1
  have bq := ho_b hE hw.2.1
  by_cases cb : F 39 i ≤ 0
  · -- whole
    have hb0 : F 39 i = 0 := by rw [i32le, y0] at cb; rw [i32eq, y0]; omega
    have hab : gX10_above F G (F 33 i) (F 34 i) = gX10_heightOf F G (F 33 i) - gX10_heightOf F G (F 34 i) := by unfold gX10_above; simp only [bvd]
    obtain ⟨D, hD, hDm, hD0, hD1⟩ : ∃ D : Int64, (if 0 < gX10_above F G (F 33 i) (F 34 i) then gX10_above F G (F 33 i) (F 34 i) else -gX10_above F G (F 33 i) (F 34 i)) = D ∧ (if 0 ≤ gX10_heightOf F G (F 33 i) - gX10_heightOf F G (F 34 i) then gX10_heightOf F G (F 33 i) - gX10_heightOf F G (F 34 i) else -(gX10_heightOf F G (F 33 i) - gX10_heightOf F G (F 34 i))) = D ∧ 0 ≤ D.toInt ∧ D.toInt ≤ 172000190000 := by
      rw [← hab]
      by_cases c1 : 0 < gX10_above F G (F 33 i) (F 34 i)
      · have c2 := c1
        rw [i64lt, z0, ea] at c2
        rw [if_pos c1, if_pos (show 0 ≤ gX10_above F G (F 33 i) (F 34 i) by rw [i64le, z0, ea]; omega)]
        exact ⟨_, rfl, rfl, by rw [ea]; omega, by rw [ea]; omega⟩
      · have c2 := c1
        rw [i64lt, z0, ea] at c2
        have en : (-gX10_above F G (F 33 i) (F 34 i)).toInt = -(gX10_above F G (F 33 i) (F 34 i)).toInt := i64n (by rw [ea]; omega)
        rw [if_neg c1]
        refine ⟨_, rfl, ?_, by rw [en, ea]; omega, by rw [en, ea]; omega⟩
        by_cases c3 : 0 ≤ gX10_above F G (F 33 i) (F 34 i)
        · rw [if_pos c3, i64eq, en]
          rw [i64le, z0, ea] at c3
          rw [ea]; omega
        · rw [if_neg c3]
    have q1 : 0 ≤ D.toInt * (F 37 i).toInt := Int.mul_nonneg hD0 (by omega)
    have q2 : D.toInt * (F 37 i).toInt ≤ 172000190000 * 99 := Int.le_trans (Int.mul_le_mul_of_nonneg_right hD1 (by omega)) (Int.mul_le_mul_of_nonneg_left hp1 (by omega))
    have f1 : (D * (F 37 i).toInt64).toInt = D.toInt * (F 37 i).toInt := by rw [i64m (by rw [i3264]; omega) (by rw [i3264]; omega), i3264]
    have f2 : (D * (F 37 i).toInt64 / 1000).toInt = D.toInt * (F 37 i).toInt / 1000 := by rw [i64d (by rw [f1]; omega) (by rw [z1000]; omega), f1, z1000]
    obtain ⟨x, G1, GM1, k1, k2, k3, k4, k5, k6, k7, k8⟩ := flow_m hE hR hG hw (D * (F 37 i).toInt64 / 1000) (by rw [f2]; omega) (by rw [f2]; omega)
    have hr1 := RR_flow h k5 k6 k7 k4
    have hE1 := hr1.1.1
    obtain ⟨y, G2, GM2, p1, p2, p3, p4, p5, p6, p7, p8, p9⟩ := fo_m hE1 hR k4 hi (by omega) hw
    have hr2 := RR_flow hr1 p5 p6 p7 p4
    have e61 : G2 61 i = G 61 i := by rw [(p5 61 (by decide) (by decide)).1, (k5 61 (by decide) (by decide)).1]
    have hw4 := w4 hb0
    have fD : (D / 100).toInt = D.toInt / 100 := by rw [i64d hD0 (by rw [c100]; omega), c100]
    -- the damage
    obtain ⟨dm, hdm, hdmm, hdm0, hdm1⟩ : ∃ dm : Int64, (∀ (α : Type) (k : Int64 → α), (if (if y ≤ 0 then (0 : Int32) else 1) = 0 then (if D < 200 then k (G 61 i) else k (G 61 i + D / 100)) else (if D < 200 then k (G 61 i + 20) else k (G 61 i + 20 + D / 100))) = k dm) ∧ (G 61 i + (if D < 200 then 0 else D / 100)) + (if y ≤ 0 then 0 else 20) = dm ∧ 0 ≤ dm.toInt ∧ dm.toInt ≤ 1999999999 := by
      by_cases c1 : y ≤ 0
      · by_cases c2 : D < 200
        · refine ⟨G 61 i, fun α k => ?_, ?_, by omega, by omega⟩
          · rw [if_pos c1, if_pos rfl, if_pos c2]
          · rw [if_pos c2, if_pos c1, add0, add0]
        · have s1 : (G 61 i + D / 100).toInt = (G 61 i).toInt + D.toInt / 100 := by rw [i64a (by rw [fD]; omega) (by rw [fD]; omega), fD]
          refine ⟨G 61 i + D / 100, fun α k => ?_, ?_, by rw [s1]; omega, by rw [s1]; omega⟩
          · rw [if_pos c1, if_pos rfl, if_neg c2]
          · rw [if_neg c2, if_pos c1, add0]
      · by_cases c2 : D < 200
        · have s1 : (G 61 i + 20).toInt = (G 61 i).toInt + 20 := by rw [i64a (by rw [z20]; omega) (by rw [z20]; omega), z20]
          refine ⟨G 61 i + 20, fun α k => ?_, ?_, by rw [s1]; omega, by rw [s1]; omega⟩
          · rw [if_neg c1, if_neg (show ¬ (1 : Int32) = 0 by decide), if_pos c2]
          · rw [if_pos c2, if_neg c1, add0]
        · have s0 : (G 61 i + 20).toInt = (G 61 i).toInt + 20 := by rw [i64a (by rw [z20]; omega) (by rw [z20]; omega), z20]
          have s1 : (G 61 i + 20 + D / 100).toInt = (G 61 i).toInt + 20 + D.toInt / 100 := by rw [i64a (by rw [s0, fD]; omega) (by rw [s0, fD]; omega), s0, fD]
          refine ⟨G 61 i + 20 + D / 100, fun α k => ?_, ?_, by rw [s1]; omega, by rw [s1]; omega⟩
          · rw [if_neg c1, if_neg (show ¬ (1 : Int32) = 0 by decide), if_neg c2]
          · rw [if_neg c2, if_neg c1, Int64.add_assoc, Int64.add_comm (D / 100) 20, ← Int64.add_assoc]
    have e32 : (Int64.toInt32 dm).toInt64 = dm := by
      rw [i64eq, i3264, Int64.toInt_toInt32]
      exact Int.bmod_eq_of_le (by omega) (by omega)
    have e32i : (Int64.toInt32 dm).toInt = dm.toInt := by rw [← i3264, e32]
    -- the class
    have hcl : gX3_hold F G i = ((if dm < (F 36 i).toInt64 then F else u2 F 39 i 1), u2 G2 61 i dm) := by
      have hk := hdm (jF × jG) (fun z => if z < (F 36 i).toInt64 then (F, u2 G2 61 i z) else (u2 F 39 i 1, u2 G2 61 i z))
      have hfin : (if dm < (F 36 i).toInt64 then (F, u2 G2 61 i dm) else (u2 F 39 i 1, u2 G2 61 i dm)) = ((if dm < (F 36 i).toInt64 then F else u2 F 39 i 1), u2 G2 61 i dm) := by split <;> rfl
      rw [← hfin, ← hk]
      unfold gX3_hold
      rw [if_pos cb]
      simp only [bvd, brd, hD, k1, p1, u2_at, u2_u2, e61]
      have eid : u2 G2 61 i (G 61 i) = G2 := by rw [← e61]; exact u2_id G2 61 i
      rw [eid]
    -- the reference
    have hmd : gX12_holds FM GM (nI i) = (u2 (u2 FM 38 i (Int64.toInt32 dm)) 39 i (if dm < (F 36 i).toInt64 then 0 else 1), GM2) := by
      unfold gX12_holds
      simp only [bvd, brd, nI_clamp (show i < 2 ^ 31 by omega), r33, r34, r37, r39, l1, l2, hDm, k2, p2, r38, u2_at]
      rw [if_pos cb, hdmm]
      have hle : dm ≤ 2000000000 := by rw [i64le]; have : (2000000000 : Int64).toInt = 2000000000 := rfl; omega
      rw [if_pos hle]
      have hcmp : (Int64.toInt32 dm < u2 FM 38 i (Int64.toInt32 dm) 36 i) ↔ dm < (F 36 i).toInt64 := by
        rw [u2_other _ (by decide : 36 ≠ 38), r36, i32lt, i64lt, e32i, i3264]
      by_cases c1 : dm < (F 36 i).toInt64
      · rw [if_pos c1, if_pos (hcmp.mpr c1)]
      · rw [if_neg c1, if_neg (fun h => c1 (hcmp.mp h))]
    have hfin : RR b c (u2 F 39 i (if dm < (F 36 i).toInt64 then 0 else 1)) (u2 G2 61 i dm) (u2 (u2 FM 38 i (Int64.toInt32 dm)) 39 i (if dm < (F 36 i).toInt64 then 0 else 1)) GM2 := by
      refine RR_39 hr2 hi e32 ?_ ?_ hdm0 (by omega) ?_
      · split <;> decide
      · split <;> decide
      · intro e
        by_cases c1 : dm < (F 36 i).toInt64
        · rw [i64lt, i3264] at c1; omega
        · rw [if_neg c1] at e; exact absurd e (by decide)
    have hcl2 : gX3_hold F G i = (u2 F 39 i (if dm < (F 36 i).toInt64 then 0 else 1), u2 G2 61 i dm) := by
      rw [hcl]
      by_cases c1 : dm < (F 36 i).toInt64
      · rw [if_pos c1, if_pos c1]
        have := u2_id F 39 i
        rw [hb0] at this
        rw [this]
      · rw [if_neg c1, if_neg c1]
    refine ⟨by rw [hcl2, hmd]; exact hfin, ?_, ?_, fun k hk => by rw [hcl2]; exact u2_other F hk i _⟩
    · unfold okX3_hold
      simp only [bvd, brd, hD, k1, p1]
      refine ⟨hi, fun _ => ⟨hi, hi, ab_ok _ _, hi, hi, hi, lvo_ok _ _ _, hi, p8, ?_⟩, fun e => absurd cb e⟩
      exact ⟨fun _ => ⟨fun _ => ⟨hi, hi, fun _ => trivial, fun _ => hi⟩, fun _ => ⟨hi, hi, hi, hi, fun _ => trivial, fun _ => hi⟩⟩, fun _ => ⟨hi, hi, fun _ => ⟨hi, hi, fun _ => trivial, fun _ => hi⟩, fun _ => ⟨hi, hi, hi, hi, fun _ => trivial, fun _ => hi⟩⟩⟩
    · unfold okX12_holds
      simp only [bvd, brd, nI_clamp (show i < 2 ^ 31 by omega), r33, r34, r37, r39, l1, l2, hDm, k2, p2, r38]
      exact ⟨hv, fun _ => ⟨hv, o1, hv, o2, hv, hv, hv, k8, p9, hv, hv, hv, hv, hv⟩, fun e => absurd cb e⟩
  · -- broken
    have cb2 := cb
    rw [i32le, y0] at cb2
    have f1 : (50 * (F 39 i).toInt64).toInt = 50 * (F 39 i).toInt := by rw [i64m (by rw [z50, i3264]; omega) (by rw [z50, i3264]; omega), z50, i3264]
    obtain ⟨x, G1, GM1, k1, k2, k3, k4, k5, k6, k7, k8⟩ := flow_m hE hR hG hw (50 * (F 39 i).toInt64) (by rw [f1]; omega) (by rw [f1]; omega)
    have hr1 := RR_flow h k5 k6 k7 k4
    have e61 : G1 61 i = G 61 i := (k5 61 (by decide) (by decide)).1 ▸ rfl
    have ep : (F 39 i + 1).toInt = (F 39 i).toInt + 1 := by rw [i32a (by rw [y1]; omega) (by rw [y1]; omega), y1]
    have hvv : (if 10 < F 39 i + 1 then 10 else F 39 i + 1) = F 39 i + (if 10 ≤ F 39 i then 0 else 1) := by
      by_cases c1 : 10 ≤ F 39 i
      · rw [if_pos c1, if_pos (show 10 < F 39 i + 1 by rw [i32le, y10] at c1; rw [i32lt, y10, ep]; omega)]
        rw [i32le, y10] at c1
        rw [i32eq, Int32.add_zero, y10]; omega
      · rw [if_neg c1, if_neg (show ¬ 10 < F 39 i + 1 by rw [i32le, y10] at c1; rw [i32lt, y10, ep]; omega)]
    have hvi : 1 ≤ (F 39 i + (if 10 ≤ F 39 i then 0 else 1)).toInt ∧ (F 39 i + (if 10 ≤ F 39 i then 0 else 1)).toInt ≤ 10 := by
      by_cases c1 : 10 ≤ F 39 i
      · rw [if_pos c1, Int32.add_zero]; omega
      · rw [if_neg c1, ep]; rw [i32le, y10] at c1; omega
    have hcl : gX3_hold F G i = (u2 F 39 i (F 39 i + (if 10 ≤ F 39 i then 0 else 1)), G1) := by
      unfold gX3_hold
      rw [if_neg cb]
      simp only [bvd, brd, k1, hvv]
    have hmd : gX12_holds FM GM (nI i) = (u2 FM 39 i (F 39 i + (if 10 ≤ F 39 i then 0 else 1)), GM1) := by
      unfold gX12_holds
      simp only [bvd, brd, nI_clamp (show i < 2 ^ 31 by omega), r33, r34, r39, k2]
      rw [if_neg cb]
    have e38 : (FM 38 i).toInt64 = G1 61 i := by rw [e61]; exact r38 i
    have hfin := RR_39 hr1 (i := i) (v := F 39 i + (if 10 ≤ F 39 i then 0 else 1)) (d := FM 38 i) (dm := G1 61 i) hi e38 (by omega) (by omega) (by rw [e61]; omega) (by rw [e61]; omega) (fun e => by rw [e, y0] at hvi; omega)
    rw [u2_id, u2_id] at hfin
    refine ⟨by rw [hcl, hmd]; exact hfin, ?_, ?_, fun k hk => by rw [hcl]; exact u2_other F hk i _⟩
    · unfold okX3_hold
      simp only [bvd, brd, k1]
      exact ⟨hi, fun e => absurd e cb, fun _ => ⟨hi, hi, hi, lvo_ok _ _ _, hi, hi⟩⟩
    · unfold okX12_holds
      simp only [bvd, brd, nI_clamp (show i < 2 ^ 31 by omega), r33, r34, r39, k2]
      refine ⟨hv, fun e => absurd e cb, fun _ => ⟨hv, hv, hv, k8, hv, ?_⟩⟩
      first | exact hv | exact ⟨hv, hv⟩ | exact ⟨hv, hv, hv⟩
