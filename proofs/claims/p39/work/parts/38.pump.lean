-- pumps in an hour
theorem fs_u {F : jF} {i : Nat} (hi : i < 8) (v : Int32) : fs (u2 F 30 i v) = fs F - (F 30 i).toInt + v.toInt := by
  unfold fs
  have h : i = 0 ∨ i = 1 ∨ i = 2 ∨ i = 3 ∨ i = 4 ∨ i = 5 ∨ i = 6 ∨ i = 7 := by omega
  rcases h with rfl | rfl | rfl | rfl | rfl | rfl | rfl | rfl <;> simp only [u2_same] <;> simp <;> omega
theorem fs_ge {c : Nat} {F : jF} (hP : wP c F) {i : Nat} (hi : i < 8) : (F 30 i).toInt ≤ fs F := by
  have h0 := fun i => (hP i).2.2.1.1
  have h := h0 0; have h1 := h0 1; have h2 := h0 2; have h3 := h0 3; have h4 := h0 4; have h5 := h0 5; have h6 := h0 6; have h7 := h0 7
  unfold fs
  have e : i = 0 ∨ i = 1 ∨ i = 2 ∨ i = 3 ∨ i = 4 ∨ i = 5 ∨ i = 6 ∨ i = 7 := by omega
  rcases e with rfl | rfl | rfl | rfl | rfl | rfl | rfl | rfl <;> omega
/-- an hour's work of a pump -/
theorem RR_fuel {b : Int} {c : Nat} {F FM : jF} {G GM : jG} (hb : 9999 * fs F ≤ b) (hb2 : b ≤ 1720000000) (h : RR (b + 9999) c F G FM GM) {i : Nat} (hi : i < cn F 23) (hf : 1 ≤ (F 30 i).toInt) (hw : (F 31 i).toInt ≤ 998) : RR b c (u2 (u2 F 30 i (F 30 i - 1)) 31 i (F 31 i + 1)) G (u2 (u2 FM 30 i (F 30 i - 1)) 31 i (F 31 i + 1)) GM := by
  obtain ⟨⟨⟨a1, a2, a3, a4, a5, a6⟩, h2⟩, ⟨h3, h4⟩, h5⟩ := h
  obtain ⟨⟨g1, g2, g3⟩, ⟨g4, g5, g6⟩, g7, g8⟩ := h2
  have hn : cn F 23 ≤ 8 := a1.1.2.2.1.2
  have z1 : (1 : Int32).toInt = 1 := rfl
  obtain ⟨w1, w2, ⟨w3, w3'⟩, ⟨w4, w4'⟩, w5⟩ := g2 i
  have t30 := Int32.toInt_lt (F 30 i)
  have e30 : (F 30 i - 1).toInt = (F 30 i).toInt - 1 := by rw [i32s (by rw [z1]; omega) (by rw [z1]; omega), z1]
  have e31 : (F 31 i + 1).toInt = (F 31 i).toInt + 1 := by rw [i32a (by rw [z1]; omega) (by rw [z1]; omega), z1]
  have hag : ∀ {ks : List Nat}, 30 ∉ ks → 31 ∉ ks → ag ks F (u2 (u2 F 30 i (F 30 i - 1)) 31 i (F 31 i + 1)) := fun h1 h2 => ag_tr (ag_off F h1 i _) (ag_off _ h2 i _)
  have hagm : ∀ {ks : List Nat}, 30 ∉ ks → 31 ∉ ks → ag ks FM (u2 (u2 FM 30 i (F 30 i - 1)) 31 i (F 31 i + 1)) := fun h1 h2 => ag_tr (ag_off FM h1 i _) (ag_off _ h2 i _)
  have n1 : wN (u2 (u2 F 30 i (F 30 i - 1)) 31 i (F 31 i + 1)) := wN_c (hag (by decide) (by decide)) a1
  have hfs : fs (u2 (u2 F 30 i (F 30 i - 1)) 31 i (F 31 i + 1)) = fs F - 1 := by
    have h1 := fs_u (F := F) (i := i) (by omega) (F 30 i - 1)
    have h2 : fs (u2 (u2 F 30 i (F 30 i - 1)) 31 i (F 31 i + 1)) = fs (u2 F 30 i (F 30 i - 1)) := by unfold fs; rw [u2_other _ (by decide : 30 ≠ 31)]
    rw [h2, h1, e30]; omega
  have hge := fs_ge g2 (i := i) (by omega)
  have e8 : cn (u2 (u2 F 30 i (F 30 i - 1)) 31 i (F 31 i + 1)) 8 = cn F 8 := cn_of (hag (ks := [8]) (by decide) (by decide) 8 (by decide))
  refine ⟨⟨⟨n1, wB_c (hag (by decide) (by decide)) rfl (fun _ _ => rfl) a2, ⟨by rw [hfs]; omega, fun j hj => ?_⟩, wS_c (hag (by decide) (by decide)) a4, wO_c (hag (by decide) (by decide)) a5, wZ_c a1 n1 (hag (by decide) (by decide)) (ag_rf _ G) a6⟩, ⟨⟨wG_c (hag (by decide) (by decide)) g1, fun j => ?_, wD_c (hag (by decide) (by decide)) rfl g3⟩, ⟨wR_c (hag (by decide) (by decide)) g4, wC_c (hag (by decide) (by decide)) g5, wWk_c (hag (by decide) (by decide)) g6⟩, wM_c (hag (by decide) (by decide)) g7, wT_c (hag (ks := [16]) (by decide) (by decide) 16 (by decide)) g8⟩⟩, ⟨ag_u2 (ag_u2 h3 30 i rfl) 31 i rfl, h4⟩, rX_c (hag (by decide) (by decide)) (hagm (by decide) (by decide)) rfl rfl h5⟩
  · rw [e8] at hj
    have hl := a3.2 j hj
    rw [hfs, lev_c (hag (by decide) (by decide))]
    exact ⟨hl.1, by omega⟩
  · obtain ⟨v1, v2, v3, v4, v5⟩ := g2 j
    rw [cn_of (hag (ks := [23]) (by decide) (by decide) 23 (by decide)), hag (ks := [24]) (by decide) (by decide) 24 (by decide), hag (ks := [25]) (by decide) (by decide) 25 (by decide), hag (ks := [26]) (by decide) (by decide) 26 (by decide), hag (ks := [27]) (by decide) (by decide) 27 (by decide), hag (ks := [28]) (by decide) (by decide) 28 (by decide), hag (ks := [29]) (by decide) (by decide) 29 (by decide)]
    rw [u2_other _ (by decide : 30 ≠ 31), u2_same, u2_same, u2_other _ (by decide : 31 ≠ 30)]
    refine ⟨fun hj => ⟨wy_c (hag (ks := [8]) (by decide) (by decide) 8 (by decide)) (v1 hj).1, (v1 hj).2⟩, v2, ?_, ?_, fun hj => ?_⟩
    · by_cases e : j = i
      · rw [if_pos e, e30]; omega
      · rw [if_neg e]; exact v3
    · by_cases e : j = i
      · rw [if_pos e, e31]; omega
      · rw [if_neg e]; exact v4
    · rw [if_neg (by omega), if_neg (by omega)]; exact v5 hj
theorem work_m {b : Int} {c : Nat} {F FM : jF} {G GM : jG} (hb : b ≤ 1719000000) (h : RR b c F G FM GM) {i : Nat} (hi : i < cn F 23) : RR b c (gX7_work F G i).1 (gX7_work F G i).2 (gX12_pumps FM GM (nI i)).1 (gX12_pumps FM GM (nI i)).2 ∧ okX7_work F G i ∧ okX12_pumps FM GM (nI i) ∧ (∀ k, k ≠ 30 → k ≠ 31 → (gX7_work F G i).1 k = F k) := by
  have hE := h.1.1
  have hR := h.2.1.1
  have hG := h.2.1.2
  have hn : cn F 23 ≤ 8 := hE.1.1.2.2.1.2
  have hn8 : cn F 8 ≤ 8 := hE.1.1.1.2
  obtain ⟨w1, w2, w3, w4, w5⟩ := h.1.2.1.2.1 i
  obtain ⟨hw, ⟨hm0, hm1⟩, ⟨hh0, hh1⟩, ⟨hl0, hl1⟩⟩ := w1 hi
  have r24 := hR.at 24 (by decide)
  have r25 := hR.at 25 (by decide)
  have r26 := hR.at 26 (by decide)
  have r27 := hR.at 27 (by decide)
  have r28 := hR.at 28 (by decide)
  have r29 := hR.at 29 (by decide)
  have r30 := hR.at 30 (by decide)
  have r31 := hR.at 31 (by decide)
  have r14 := hG.at 14 (by decide)
  have z0 : (0 : Int64).toInt = 0 := rfl
  have y0 : (0 : Int32).toInt = 0 := rfl
  have z1 : ¬ (1 : Int32) = 0 := by decide
  have hv : vp_in (nI i) 8 := nI_vin (by omega) (by omega)
  have ea := ab_i hE hw.sym
  have l1 := lo_m hE hR hG hw.1
  have l2 := lo_m hE hR hG hw.2.1
  have o1 := lom_ok (GM := GM) hE hR hw.1
  have o2 := lom_ok (GM := GM) hE hR hw.2.1
  have bp := ho_b hE hw.1
  have bq := ho_b hE hw.2.1
  have emul : (100 * (F 27 i).toInt64).toInt = 100 * (F 27 i).toInt := by rw [i64m (by rw [c100, i3264]; omega) (by rw [c100, i3264]; omega), c100, i3264]
  have edif : (gX10_heightOf F G (F 25 i) - gX10_heightOf F G (F 24 i)).toInt = (gX10_heightOf F G (F 25 i)).toInt - (gX10_heightOf F G (F 24 i)).toInt := i64s (by omega) (by omega)
  -- what is there
  have hst : (∃ j, j < cn F 8 ∧ F 24 i = nI j ∧ gX10_stockOf F G (F 24 i) = G 14 j ∧ ¬ (20 : Int32) ≤ F 24 i ∧ (F 24 i).toNatClampNeg = j) ∨ ((20 : Int32) ≤ F 24 i ∧ gX10_stockOf F G (F 24 i) = 9223372036854775807 ∧ ∀ j, j < cn F 8 → F 24 i = nI j → False) := by
    rcases hw.1 with e | e | ⟨j, hj, e⟩
    · right; rw [e]; exact ⟨by decide, rfl, fun j hj e => nI_n20 (by omega) e.symm⟩
    · right; rw [e]; exact ⟨by decide, rfl, fun j hj e => nI_n21 (by omega) e.symm⟩
    · left
      refine ⟨j, hj, e, ?_, ?_, ?_⟩
      · rw [e]; unfold gX10_stockOf; rw [ba_in _ hn8 hj]; simp only [bvd, om_s]
      · rw [e]; exact ge20 (by omega)
      · rw [e]; exact nI_clamp (by omega)
  -- the amount, in both
  obtain ⟨x, hx, hxm, hx0⟩ : ∃ x : Int64, (if gX10_stockOf F G (F 24 i) < (F 26 i).toInt64 then gX10_stockOf F G (F 24 i) else (F 26 i).toInt64) = x ∧ (if (F 26 i).toInt64 ≤ (if (20 : Int32) ≤ F 24 i then (F 26 i).toInt64 else G 14 (F 24 i).toNatClampNeg) then (F 26 i).toInt64 else (if (20 : Int32) ≤ F 24 i then (F 26 i).toInt64 else G 14 (F 24 i).toNatClampNeg)) = x ∧ ((x ≤ 0 ↔ (if (20 : Int32) ≤ F 24 i then (F 26 i).toInt64 else G 14 (F 24 i).toNatClampNeg) ≤ 0) ∧ 0 ≤ x.toInt ∧ x.toInt ≤ 9999 ∧ ∀ j, j < cn F 8 → F 24 i = nI j → x.toInt ≤ (G 14 j).toInt) := by
    refine ⟨_, rfl, ?_⟩
    rcases hst with ⟨j, hj, e1, e2, e3, e4⟩ | ⟨e1, e2, e3⟩
    · have hwj := (lev_b hE.1 hE.2.1 hE.2.2.1 hj).1
      have inj : ∀ j', j' < cn F 8 → F 24 i = nI j' → j' = j := fun j' hj' e => ((nI_eq (by omega) (by omega)).mp (e1.symm.trans e)).symm
      rw [e2, if_neg e3, e4]
      by_cases c0 : G 14 j < (F 26 i).toInt64
      · have c1 := c0
        rw [i64lt, i3264] at c1
        rw [if_pos c0, if_neg (show ¬ (F 26 i).toInt64 ≤ G 14 j by rw [i64le, i3264]; omega)]
        exact ⟨rfl, Iff.rfl, by omega, by omega, fun j' hj' e => by rw [inj j' hj' e]; omega⟩
      · have c1 := c0
        rw [i64lt, i3264] at c1
        rw [if_neg c0, if_pos (show (F 26 i).toInt64 ≤ G 14 j by rw [i64le, i3264]; omega)]
        refine ⟨rfl, ⟨fun h => ?_, fun h => ?_⟩, by rw [i3264]; omega, by rw [i3264]; omega, fun j' hj' e => by rw [inj j' hj' e, i3264]; omega⟩
        · rw [i64le, i3264, z0] at h; omega
        · rw [i64le, z0] at h; omega
    · rw [e2, if_pos e1]
      have hbig : (9223372036854775807 : Int64).toInt = 9223372036854775807 := rfl
      rw [if_neg (show ¬ (9223372036854775807 : Int64) < (F 26 i).toInt64 by rw [i64lt, i3264, hbig]; omega), if_pos (show (F 26 i).toInt64 ≤ (F 26 i).toInt64 by rw [i64le]; omega)]
      exact ⟨rfl, Iff.rfl, by rw [i3264]; omega, by rw [i3264]; omega, fun j hj e => absurd e (fun e => e3 j hj e)⟩
  obtain ⟨hx0, hx1, hx2, hx3⟩ := hx0
  have hokc : okX7_work F G i := by
    unfold okX7_work
    simp only [bvd, bsd, mo_F]
    have e1 : ∀ v, cn (u2 F 30 i v) 23 = cn F 23 := fun v => cn_of (u2_other F (by decide) i v)
    rw [e1]
    exact ⟨hi, fun _ => trivial, fun _ => ⟨hi, fun _ => trivial, fun _ => ⟨hi, hi, fun _ => ⟨hi, hi, st_ok _, fun _ => trivial, fun _ => ⟨hi, hi, ab_ok _ _, hi, fun _ => ⟨hi, hi, mo_ok _ _ _, hi, hi, hi, hi⟩, fun _ => trivial⟩⟩, fun _ => trivial⟩⟩⟩
  have hokm : okX12_goes FM GM (F 24 i) (F 25 i) x → okX12_pumps FM GM (nI i) := by
    intro hg
    unfold okX12_pumps
    simp only [bvd, bsd, nI_clamp (show i < 2 ^ 31 by omega), r24, r25, r26, r27, r28, r29, r30, r31, r14, hxm]
    have hv24 : ¬ (20 : Int32) ≤ F 24 i → vp_in (F 24 i) 8 := fun hno => by
      rcases hst with ⟨j, hj, e1, -⟩ | ⟨e1, -⟩
      · rw [e1]; exact nI_vin (by omega) (by omega)
      · exact absurd e1 hno
    exact ⟨hv, ⟨fun _ => ⟨hv, fun _ => trivial, fun _ => ⟨hv, hv⟩⟩, fun _ => trivial⟩, hv, ⟨fun _ => hv, fun hno => ⟨hv, hv24 hno⟩⟩, fun _ => trivial, fun _ => ⟨fun _ => trivial, fun _ => ⟨hv, o2, hv, o1, hv, fun _ => trivial, fun _ => ⟨hv, hv, hv, ⟨fun _ => hv, fun _ => trivial⟩, hg, hv, hv, hv, hv⟩⟩⟩⟩
  obtain ⟨G1, GM1, m1, m2, m3, m4, m5, m6, m7, m8⟩ := move_m (FM := FM) (d := 999900) hE hG hw hx1 (by omega) hx3 (fun j hj _ => by have := ((hE.2.1 j).1 hj).1; omega)
  refine ⟨?_, hokc, hokm m7, ?_⟩
  · unfold gX7_work gX12_pumps
    simp only [bvd, bsd, nI_clamp (show i < 2 ^ 31 by omega), r24, r25, r26, r27, r28, r29, r14, hxm, hx]
    rw [r30, r31, l1, l2]
    rcases w2 with c0 | c0
    · rw [if_pos c0, if_neg (show ¬ F 29 i = 1 by rw [c0]; decide), if_pos rfl]
      exact h
    · rw [if_neg (show ¬ F 29 i = 0 by rw [c0]; exact z1), if_pos c0]
      by_cases c1 : F 30 i ≤ 0
      · rw [if_pos c1, if_pos c1, if_pos rfl]
        exact h
      · rw [if_neg c1, if_neg c1]
        by_cases c2 : F 31 i < F 28 i
        · rw [if_pos c2, if_neg (show ¬ F 28 i ≤ F 31 i by rw [i32le]; rw [i32lt] at c2; omega), if_neg z1]
          by_cases c3 : x ≤ 0
          · rw [if_pos c3, if_pos (hx0.mp c3)]
            exact h
          · rw [if_neg c3, if_neg (fun h => c3 (hx0.mpr h))]
            by_cases c4 : gX10_above F G (F 25 i) (F 24 i) ≤ 100 * (F 27 i).toInt64
            · rw [if_pos c4, if_neg (show ¬ 100 * (F 27 i).toInt64 < gX10_heightOf F G (F 25 i) - gX10_heightOf F G (F 24 i) by rw [i64le, ea] at c4; rw [i64lt, edif]; omega)]
              rw [m1, m2]
              rw [i32le, y0] at c1
              rw [i32lt] at c2
              have hbs := hE.2.2.1.1
              have hr : RR (b + 9999) c F G1 FM GM1 := RR_flow h m4 m5 ⟨⟨hbs.1, by omega, by omega⟩, fun j hj => ⟨(m6 j hj).1, by
                have hl := (hE.2.2.1.2 j hj).2
                rcases (m6 j hj).2 with e | ⟨-, e⟩ <;> omega⟩⟩ m3
              have := RR_fuel (b := b) hbs.2.1 (by omega) hr hi (by omega) (by omega)
              simp only [u2_other _ (by decide : 31 ≠ 30), r30, r31]
              exact this
            · rw [if_neg c4, if_pos (show 100 * (F 27 i).toInt64 < gX10_heightOf F G (F 25 i) - gX10_heightOf F G (F 24 i) by rw [i64le, ea] at c4; rw [i64lt, edif]; omega)]
              exact h
        · rw [if_neg c2, if_pos (show F 28 i ≤ F 31 i by rw [i32le]; rw [i32lt] at c2; omega), if_pos rfl]
          exact h
  · intro k hk hk2
    unfold gX7_work
    simp only [bvd, bsd, mo_F]
    repeat' split
    all_goals first | rfl | (show u2 (u2 F 30 i (F 30 i - 1)) 31 i (u2 F 30 i (F 30 i - 1) 31 i + 1) k = F k; rw [u2_other _ hk2, u2_other _ hk])
