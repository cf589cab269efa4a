-- what the calls need
theorem ba_lt {F : jF} {G : jG} {p : Int32} {k : Nat} (h : gX10_basinAt F G p = some k) : k < cn F 8 := by
  unfold gX10_basinAt at h
  rw [bvd] at h
  split at h
  · exact absurd h (by simp)
  · split at h
    · unfold op at h
      split at h
      · rename_i h1; injection h with h; omega
      · exact absurd h (by simp)
    · exact absurd h (by simp)
theorem nz64 {x : Int32} (h : 1 ≤ x) : ¬ x.toInt64 = (0 : Int64) := by
  rw [i32le] at h
  have z1 : (1 : Int32).toInt = 1 := rfl
  have z0 : (0 : Int64).toInt = 0 := rfl
  rw [i64eq, i3264]; omega
theorem ht_ok {F : jF} {G : jG} {k : Nat} (h : k < cn F 8) : okX0_height F G k := ⟨h, h, fun h1 => ⟨h, h, nz64 h1⟩, fun _ => trivial⟩
theorem ho_ok {F : jF} {G : jG} (p : Int32) : okX10_heightOf F G p := by
  unfold okX10_heightOf
  refine ⟨fun _ => trivial, fun _ => ⟨fun _ => trivial, fun _ => ⟨ba_ok p, ?_⟩⟩⟩
  rw [bvd]
  cases hb : gX10_basinAt F G p with
  | none => rw [om_n]; trivial
  | some k => rw [om_s]; exact ⟨ba_lt hb, ht_ok (ba_lt hb)⟩
theorem ab_ok {F : jF} {G : jG} (p q : Int32) : okX10_above F G p q := by
  unfold okX10_above
  exact ⟨ho_ok p, by rw [bvd]; exact ho_ok q⟩
theorem st_ok {F : jF} {G : jG} (p : Int32) : okX10_stockOf F G p := by
  unfold okX10_stockOf
  refine ⟨ba_ok p, ?_⟩
  rw [bvd]
  cases hb : gX10_basinAt F G p with
  | none => rw [om_n]; trivial
  | some k => rw [om_s]; exact ba_lt hb
theorem le_ok {F : jF} {G : jG} (p q : Int32) (d : Int64) : okX10_levelling F G p q d := by
  unfold okX10_levelling
  refine ⟨ba_ok p, ?_⟩
  rw [bvd]
  cases hb : gX10_basinAt F G p with
  | none =>
    rw [om_n]
    refine ⟨ba_ok q, ?_⟩
    rw [bvd]
    cases hq : gX10_basinAt F G q with
    | none => rw [om_n]; trivial
    | some k => rw [om_s]; exact ba_lt hq
  | some j =>
    rw [om_s]
    refine ⟨ba_ok q, ?_⟩
    rw [bvd]
    cases hq : gX10_basinAt F G q with
    | none => rw [om_n]; exact ba_lt hb
    | some k =>
      rw [om_s]
      refine ⟨ba_lt hb, ba_lt hq, ?_⟩
      rw [bvd]
      refine ⟨fun h0 => ⟨ba_lt hb, ba_lt hq, fun h1 => ?_⟩, fun _ => trivial⟩
      rw [h1] at h0; exact absurd h0 (by decide)
theorem mo_ok {F : jF} {G : jG} (p q : Int32) (d : Int64) : okX10_move F G p q d := by
  unfold okX10_move
  refine ⟨ba_ok p, ?_⟩
  rw [bvd]
  cases hb : gX10_basinAt F G p with
  | none =>
    rw [om_n]
    refine ⟨ba_ok q, ?_⟩
    rw [bvd]
    cases hq : gX10_basinAt F G q with
    | none => rw [om_n]; refine ⟨ct_ok, ?_⟩; rw [bsd]; exact ct_ok
    | some k => rw [om_s]; refine ⟨ct_ok, ?_⟩; rw [bsd, ct_2]; exact ⟨ba_lt hq, ba_lt hq⟩
  | some j =>
    rw [om_s]
    refine ⟨ba_ok q, ?_⟩
    rw [bvd]
    cases hq : gX10_basinAt F G q with
    | none => rw [om_n]; refine ⟨ba_lt hb, ba_lt hb, ?_⟩; rw [bvd]; exact ct_ok
    | some k => rw [om_s]; refine ⟨ba_lt hb, ba_lt hb, ?_⟩; rw [bvd]; exact ⟨ba_lt hq, ba_lt hq⟩
theorem lvo_ok {F : jF} {G : jG} (p q : Int32) (m : Int64) : okX10_levelOut F G p q m := by
  unfold okX10_levelOut
  simp only [bvd]
  exact ⟨ho_ok p, ho_ok q, le_ok _ _ _, st_ok _, fun _ => mo_ok _ _ _, fun _ => trivial⟩
theorem sg_ok {F : jF} {G : jG} (hN : wN F) (hS : wS F) {p : Int32} (h0 : 0 ≤ p.toInt) (h1 : p.toInt ≤ 20000) : okX6_greatestSurge F G p := by
  unfold okX6_greatestSurge
  have h12 := hN.2.1
  have h := lpO (fun n i (v : Int64) => okX6_greatestSurge_L5 F G p (fun _ _ => True) n i v) (fun _ _ => True) (sgS F G p) 12 (fun _ _ => True) (fun n i v hi _ hk => by
    show okX6_greatestSurge_L5 F G p (fun _ _ => True) (n + 1) (nI i) v
    rw [okX6_greatestSurge_L5]
    rw [n12]
    refine ⟨fun h => absurd h (nI_ge hi (by omega)), fun _ => ⟨nI_vin hi (by omega), ?_⟩⟩
    unfold sgS at hk
    rw [← nI_1] at hk
    rw [bvd, nI_clamp (by omega)]
    by_cases hc : i < cn F 40
    · rw [if_pos hc] at hk
      rw [op_in hc, om_s]
      refine ⟨nI_vin hi (by omega), ?_⟩
      rw [bvd, om_s]
      refine ⟨hc, ?_, ?_⟩
      · unfold okX9_surgeAt
        simp only [bvd]
        have hne := (surge_m G hS hc h0 h1).2.1
        exact ⟨hc, hc, fun _ => trivial, fun _ => ⟨fun _ => trivial, fun _ => ⟨hc, fun _ => ⟨hc, hc, hne⟩, fun _ => trivial⟩⟩⟩
      · rw [bvd, bvd]; exact hk
    · rw [if_neg hc] at hk
      rw [op_no hc, om_n]; exact hk) (fun _ _ _ _ => trivial) (fun n v _ _ => by
    show okX6_greatestSurge_L5 F G p (fun _ _ => True) (n + 1) (nI 12) v
    rw [okX6_greatestSurge_L5, n12]
    exact ⟨fun _ => trivial, fun h => absurd (nI_le (Nat.le_refl _) (by omega)) h⟩) 12 0 80 0 (by omega) (by omega) trivial trivial
  rw [nI_0] at h
  exact h
theorem sea_ok {F : jF} {G : jG} (hN : wN F) (hS : wS F) {p : Int32} (h0 : 0 ≤ p.toInt) (h1 : p.toInt ≤ 20000) : okX6_seaAt F G p := by
  unfold okX6_seaAt
  rw [bvd]
  exact sg_ok hN hS h0 h1
theorem seam_ok {F FM : jF} {G GM : jG} (hN : wN F) (hS : wS F) (hR : ag shF F FM) {p : Int32} (h0 : 0 ≤ p.toInt) (h1 : p.toInt ≤ 20000) : okX12_seaAt FM GM p := by
  have h12 := hN.2.1
  have r40 := hR.at 40 (by decide)
  have r41 := hR.at 41 (by decide)
  have r42 := hR.at 42 (by decide)
  have r43 := hR.at 43 (by decide)
  unfold okX12_seaAt
  simp only [bvd]
  generalize 100 * (FM 5 0 + FM 6 0 * (if 6 < p - p / 12 * 12 then 12 - (p - p / 12 * 12) else p - p / 12 * 12) / 6 - FM 6 0 / 2).toInt64 = q
  have h := lpO (fun n i (v : Int64) => okX12_seaAt_L51 FM GM q p (fun _ _ => True) n i v) (fun _ _ => True) (fun i v => if gX12_in (p - F 41 i) 0 (F 42 i - 1) = 0 then v else (fun x => if x ≤ v then v else x) ((((100 * (F 43 i).toInt64) * (if (F 42 i - (p - F 41 i)) ≤ ((p - F 41 i) + 1) then (F 42 i - (p - F 41 i)) else ((p - F 41 i) + 1)).toInt64) * 2) / (F 42 i + 1).toInt64)) (cn F 40) (fun _ _ => True) (fun n i v hi _ hk => by
    show okX12_seaAt_L51 FM GM q p (fun _ _ => True) (n + 1) (nI i) v
    rw [okX12_seaAt_L51, r40, r41, r42, r43, h12.1]
    have hv : vp_in (nI i) 12 := nI_vin (by omega) (by omega)
    refine ⟨fun h => absurd h (nI_ge hi (by omega)), fun _ => ⟨hv, ?_⟩⟩
    rw [← nI_1] at hk
    simp only [bvd, nI_clamp (show i < 2 ^ 31 by omega)]
    refine ⟨hv, fun hc => ?_, fun hc => ⟨hv, ⟨fun _ => hv, fun _ => trivial⟩, hv, hv, (surge_m G hS hi h0 h1).2.1, ?_⟩⟩
    · rw [if_pos hc] at hk; exact hk
    · rw [if_neg hc] at hk; exact hk) (fun _ _ _ _ => trivial) (fun n v _ _ => by
    show okX12_seaAt_L51 FM GM q p (fun _ _ => True) (n + 1) (nI (cn F 40)) v
    rw [okX12_seaAt_L51, r40, h12.1]
    exact ⟨fun _ => trivial, fun h => absurd (nI_le (Nat.le_refl _) (by omega)) h⟩) (cn F 40) 0 80 0 (by omega) (by omega) trivial trivial
  rw [nI_0] at h
  exact h
theorem lom_ok {b : Int} {F FM : jF} {G GM : jG} (h : wE b F G) (hR : ag shF F FM) {p : Int32} (hp : eo F p) : okX12_levelOf FM GM p := by
  have hh := h.1.hr
  unfold okX12_levelOf
  rcases hp with rfl | rfl | ⟨j, hj, rfl⟩
  · refine ⟨fun _ => ?_, fun h => absurd rfl h⟩
    rw [hR.at 0 (by decide)]
    exact seam_ok (G := G) h.1 h.2.2.2.1 hR hh.1 (by omega)
  · exact ⟨fun h => absurd h (by decide), fun _ => ⟨fun _ => trivial, fun h => absurd rfl h⟩⟩
  · have hn := h.1.1.1.2
    have hv : vp_in (nI j) 8 := nI_vin (by omega) (by omega)
    refine ⟨fun h => absurd h (nI_n20 (by omega)), fun _ => ⟨fun _ => trivial, fun _ => ⟨hv, hv, hv, ?_⟩⟩⟩
    rw [nI_clamp (by omega), hR.at 9 (by decide)]
    exact nz64 (i32le.mpr ((h.2.1 j).1 hj).1.1)
theorem lvm_ok {b : Int} {F FM : jF} {G GM : jG} (h : wE b F G) (hR : ag shF F FM) {p q : Int32} (hw : wy F p q) : okX12_levels FM GM p q := by
  have hn := h.1.1.1.2
  unfold okX12_levels
  simp only [bvd]
  have vin : ∀ j, j < cn F 8 → vp_in (nI j) 8 := fun j hj => nI_vin (by omega) (by omega)
  have h20 : ∀ o : Int32, o = 20 ∨ o = 21 → (20 : Int32) ≤ o := fun o ho => by rcases ho with rfl | rfl <;> decide
  refine ⟨lom_ok h hR hw.1, lom_ok h hR hw.2.1, ?_⟩
  obtain ⟨ha, hc, hne, hba⟩ := hw
  refine ⟨fun h1 => ⟨?_, fun _ => trivial, fun h2 => absurd h1 h2⟩, fun h1 => ?_⟩
  · rw [if_pos h1]
    rcases hba with ⟨j, hj, e⟩ | ⟨j, hj, rfl⟩
    · exact absurd (e ▸ h1) (ge20 (by omega))
    · exact vin j hj
  · have hi : ∃ i, i < cn F 8 ∧ p = nI i := by
      rcases ha with ha | ha | ha
      · exact absurd (h20 p (Or.inl ha)) h1
      · exact absurd (h20 p (Or.inr ha)) h1
      · exact ha
    obtain ⟨i, hi, rfl⟩ := hi
    refine ⟨fun h2 => ⟨?_, fun h3 => absurd h3 h1, fun _ => ⟨vin i hi, fun _ => trivial, fun _ => vin i hi⟩⟩, fun h2 => ?_⟩
    · rw [if_neg h1]; exact vin i hi
    · have hj : ∃ j, j < cn F 8 ∧ q = nI j := by
        rcases hc with hc | hc | hc
        · exact absurd (h20 q (Or.inl hc)) h2
        · exact absurd (h20 q (Or.inr hc)) h2
        · exact hc
      obtain ⟨j, hj, rfl⟩ := hj
      refine ⟨vin i hi, vin j hj, vin i hi, vin j hj, ?_, fun h3 => absurd h3 h1, fun _ => ⟨vin i hi, fun _ => trivial, fun _ => vin i hi⟩⟩
      rw [nI_clamp (by omega), nI_clamp (by omega), hR.at 9 (by decide)]
      obtain ⟨⟨a1, a2⟩, -⟩ := (h.2.1 i).1 hi
      obtain ⟨⟨b1, b2⟩, -⟩ := (h.2.1 j).1 hj
      have e1 : (F 9 i + F 9 j).toInt = (F 9 i).toInt + (F 9 j).toInt := i32a (by omega) (by omega)
      have z0 : (0 : Int64).toInt = 0 := rfl
      rw [i64eq, i64m (by rw [i3264, e1, c100]; omega) (by rw [i3264, e1, c100]; omega), i3264, e1, c100, z0]
      omega
theorem wy.sym {F : jF} {p q : Int32} (h : wy F p q) : wy F q p := ⟨h.2.1, h.1, fun e => h.2.2.1 e.symm, h.2.2.2.symm⟩
theorem ho_ub {b : Int} {F : jF} {G : jG} (h : wE b F G) {p : Int32} (hp : eo F p) : (gX10_heightOf F G p).toInt ≤ 100000 + 100 * (b - 9999 * fs F) := by
  have hL := h.2.2.1
  rcases hp with rfl | rfl | ⟨j, hj, rfl⟩
  · have := h.sea; rw [ho_20]; have := hL.1; omega
  · have := h.2.2.2.2.1.2.2.1; rw [ho_21, i3264]; have := hL.1; omega
  · rw [ho_in _ h.1.1.1.2 hj, (ht_lev h.1 h.2.1 h.2.2.1 hj).1]; exact (hL.2 j hj).2
/-- after the choice of the higher end -/
theorem flow_h {b : Int} {F FM : jF} {G GM : jG} (h : wE b F G) (hR : ag shF F FM) (hG : ag shG G GM) {a c : Int32} (hw : wy F a c) {D : Int64} (hD0 : 0 ≤ D.toInt) (hD : D.toInt = (gX10_heightOf F G a).toInt - (gX10_heightOf F G c).toInt) (m : Int64) (hm : 0 ≤ m.toInt) (hm2 : m.toInt ≤ 1000000000000000) : ∃ x G1 GM1, (if gX10_stockOf F G a < (if gX10_levelling F G a c D < m then gX10_levelling F G a c D else m) then gX10_stockOf F G a else (if gX10_levelling F G a c D < m then gX10_levelling F G a c D else m)) = x ∧ (if m ≤ gX12_levels FM GM a c then m else gX12_levels FM GM a c) = x ∧ (if 0 < x then bs (gX10_move F G a c x) (fun (F19 : jF) (G20 : jG) => (x, (F19, G20))) else (0, (F, G))) = (x, (F, G1)) ∧ bs (gX12_goes FM GM a c x) (fun (F16 : jF) (G17 : jG) => (x, (F16, G17))) = (x, (FM, GM1)) ∧ 0 ≤ x.toInt ∧ ag shG G1 GM1 ∧ (∀ k, k ≠ 14 → k ≠ 56 → G1 k = G k ∧ GM1 k = GM k) ∧ (∀ i, cn F 8 ≤ i → G1 14 i = G 14 i) ∧ wL b F G1 ∧ okX12_goes FM GM a c x := by
  have ba := ho_b h hw.1
  have bc := ho_b h hw.2.1
  have hD2 : gX12_levelOf FM GM a - gX12_levelOf FM GM c = D := by
    rw [lo_m h hR hG hw.1, lo_m h hR hG hw.2.1, i64eq, i64s (by omega) (by omega), hD]
  obtain ⟨x, x1, x2, x3, x4, x5, x6⟩ := core_x h hR hG hw hD0 (by omega) hD2 m hm
  obtain ⟨G1, GM1, m1, m2, m3, m4, m5, m6, m7, m8⟩ := move_m (FM := FM) h hG hw x3 (by omega) x5 x6
  refine ⟨x, G1, GM1, x1, x2, ?_, by rw [m2, bsd], x3, m3, m4, m5, ⟨h.2.2.1.1, fun i hi => ⟨(m6 i hi).1, ?_⟩⟩, m7⟩
  · by_cases c0 : 0 < x
    · rw [if_pos c0, m1, bsd]
    · rw [if_neg c0]
      have z0 : (0 : Int64).toInt = 0 := rfl
      have e0 : x = 0 := by rw [i64lt] at c0; rw [i64eq]; omega
      rw [e0, (m8 e0).2]
  · have hl := (h.2.2.1.2 i hi).2
    rcases (m6 i hi).2 with h1 | ⟨e, h1⟩
    · omega
    · have hu := ho_ub h hw.1
      rw [e, ho_in _ h.1.1.1.2 hi, (ht_lev h.1 h.2.1 h.2.2.1 hi).1] at hD
      omega
/-- the flow from the higher end to the other one, in both -/
theorem flow_m {b : Int} {F FM : jF} {G GM : jG} (h : wE b F G) (hR : ag shF F FM) (hG : ag shG G GM) {p q : Int32} (hw : wy F p q) (m : Int64) (hm : 0 ≤ m.toInt) (hm2 : m.toInt ≤ 1000000000000000) : ∃ x G1 GM1, gX10_levelOut F G p q m = (x, (F, G1)) ∧ gX12_flows FM GM p q m = (x, (FM, GM1)) ∧ 0 ≤ x.toInt ∧ ag shG G1 GM1 ∧ (∀ k, k ≠ 14 → k ≠ 56 → G1 k = G k ∧ GM1 k = GM k) ∧ (∀ i, cn F 8 ≤ i → G1 14 i = G 14 i) ∧ wL b F G1 ∧ okX12_flows FM GM p q m := by
  have bp := ho_b h hw.1
  have bq := ho_b h hw.2.1
  have z0 : (0 : Int64).toInt = 0 := rfl
  have e5 : (gX10_heightOf F G p - gX10_heightOf F G q).toInt = (gX10_heightOf F G p).toInt - (gX10_heightOf F G q).toInt := i64s (by omega) (by omega)
  by_cases c : gX10_heightOf F G p - gX10_heightOf F G q < 0
  · have c1 := c
    rw [i64lt, e5, z0] at c1
    have eD : (-(gX10_heightOf F G p - gX10_heightOf F G q)).toInt = (gX10_heightOf F G q).toInt - (gX10_heightOf F G p).toInt := by rw [i64n (by rw [e5]; omega), e5]; omega
    obtain ⟨x, G1, GM1, x1, x2, x3, x4, x5, x6, x7, x8, x9, x10⟩ := flow_h h hR hG hw.sym (by rw [eD]; omega) eD m hm hm2
    have c2 : gX10_heightOf F G p < gX10_heightOf F G q := by rw [i64lt]; omega
    refine ⟨x, G1, GM1, ?_, ?_, x5, x6, x7, x8, x9, ?_⟩
    · unfold gX10_levelOut
      simp only [bvd]
      rw [if_pos c, if_pos c, if_neg (show ¬ 0 < gX10_heightOf F G p - gX10_heightOf F G q by rw [i64lt, e5, z0]; omega), x1]
      exact x3
    · unfold gX12_flows
      simp only [bvd]
      rw [lo_m h hR hG hw.1, lo_m h hR hG hw.2.1, if_pos c2, if_pos rfl, if_pos rfl, x2]
      exact x4
    · unfold okX12_flows
      simp only [bvd]
      rw [lo_m h hR hG hw.1, lo_m h hR hG hw.2.1, if_pos c2, if_pos rfl, if_pos rfl, x2]
      exact ⟨lom_ok h hR hw.1, lom_ok h hR hw.2.1, lvm_ok h hR hw.sym, x10⟩
  · have c1 := c
    rw [i64lt, e5, z0] at c1
    have eD : (if 0 < gX10_heightOf F G p - gX10_heightOf F G q then gX10_heightOf F G p - gX10_heightOf F G q else -(gX10_heightOf F G p - gX10_heightOf F G q)).toInt = (gX10_heightOf F G p).toInt - (gX10_heightOf F G q).toInt := by
      by_cases c3 : 0 < gX10_heightOf F G p - gX10_heightOf F G q
      · rw [if_pos c3, e5]
      · rw [if_neg c3, i64n (by rw [e5]; omega), e5]
        rw [i64lt, e5, z0] at c3
        omega
    obtain ⟨x, G1, GM1, x1, x2, x3, x4, x5, x6, x7, x8, x9, x10⟩ := flow_h h hR hG hw (by rw [eD]; omega) eD m hm hm2
    have c2 : ¬ gX10_heightOf F G p < gX10_heightOf F G q := by rw [i64lt]; omega
    refine ⟨x, G1, GM1, ?_, ?_, x5, x6, x7, x8, x9, ?_⟩
    · unfold gX10_levelOut
      simp only [bvd]
      rw [if_neg c, if_neg c, x1]
      exact x3
    · unfold gX12_flows
      simp only [bvd]
      rw [lo_m h hR hG hw.1, lo_m h hR hG hw.2.1, if_neg c2, if_neg (show ¬ (1 : Int32) = 0 by decide), if_neg (show ¬ (1 : Int32) = 0 by decide), x2]
      exact x4
    · unfold okX12_flows
      simp only [bvd]
      rw [lo_m h hR hG hw.1, lo_m h hR hG hw.2.1, if_neg c2, if_neg (show ¬ (1 : Int32) = 0 by decide), if_neg (show ¬ (1 : Int32) = 0 by decide), x2]
      exact ⟨lom_ok h hR hw.1, lom_ok h hR hw.2.1, lvm_ok h hR hw, x10⟩
