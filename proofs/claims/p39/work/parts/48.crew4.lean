-- a crew's hour
theorem goal_m {F FM : jF} {G : jG} (hn : cn F 8 ≤ 8) (hR : ag shF F FM) {d : Nat} (hw : wy F (F 33 d) (F 34 d)) : ∃ g, g < cn F 8 ∧ gX3_workplace F G d = nI g ∧ (if (20 : Int32) ≤ FM 33 d then FM 34 d else FM 33 d) = nI g := by
  rw [hR.at 33 (by decide), hR.at 34 (by decide)]
  unfold gX3_workplace
  simp only [bvd]
  have out : F 33 d = 20 ∨ F 33 d = 21 → ∃ g, g < cn F 8 ∧ om (gX10_basinAt F G (F 33 d)) (F 34 d) (fun _ => F 33 d) = nI g ∧ (if (20 : Int32) ≤ F 33 d then F 34 d else F 33 d) = nI g := fun e => by
    have hb : gX10_basinAt F G (F 33 d) = none := by rcases e with e | e <;> rw [e] <;> rfl
    have h20 : (20 : Int32) ≤ F 33 d := by rcases e with e | e <;> rw [e] <;> decide
    rw [hb, om_n, if_pos h20]
    rcases hw.2.2.2 with ⟨j, hj, e2⟩ | ⟨j, hj, e2⟩
    · rcases e with e | e
      · exact absurd (e2.symm.trans e) (nI_n20 (by omega))
      · exact absurd (e2.symm.trans e) (nI_n21 (by omega))
    · exact ⟨j, hj, e2, e2⟩
  rcases hw.1 with e | e | ⟨j, hj, e⟩
  · exact out (Or.inl e)
  · exact out (Or.inr e)
  · rw [e, ba_in G hn hj, om_s, if_neg (ge20 (by omega))]
    exact ⟨j, hj, rfl, rfl⟩
theorem wp_ok {F : jF} {G : jG} {d : Nat} (h : d < cn F 32) : okX3_workplace F G d := by
  unfold okX3_workplace
  refine ⟨h, ba_ok _, ?_⟩
  rw [bvd]
  cases gX10_basinAt F G (F 33 d) with
  | none => rw [om_n]; exact h
  | some k => rw [om_s]; exact h
theorem bag_ok {F : jF} {G : jG} {d : Nat} (h : d < cn F 32) : okX3_bag F G d := by
  unfold okX3_bag
  simp only [bvd]
  refine ⟨h, fun _ => ⟨h, h, ?_⟩, fun _ => ⟨h, h⟩⟩
  have e : ∀ v, cn (u2 F 39 d v) 32 = cn F 32 := fun v => cn_of (u2_other F (by decide) d v)
  rw [e]
  exact ⟨h, fun _ => h, fun _ => trivial⟩
theorem hurt_ok {F : jF} {G : jG} {d : Nat} (h : d < cn F 32) : okX3_isHurt F G d := ⟨h, fun _ => trivial, fun _ => h⟩
theorem toil_m {b : Int} {c : Nat} {F FM : jF} {G GM : jG} (h : RR b c F G FM GM) (hd : DR F G) {k : Nat} (hk : k < 3) : (RR b c (gX2_toil F G k (gX5_dykeAt F G (F 64 k))).1 (gX2_toil F G k (gX5_dykeAt F G (F 64 k))).2 (gX12_crews FM GM (nI k)).1 (gX12_crews FM GM (nI k)).2 ∧ DR (gX2_toil F G k (gX5_dykeAt F G (F 64 k))).1 (gX2_toil F G k (gX5_dykeAt F G (F 64 k))).2) ∧ okX2_toil F G k (gX5_dykeAt F G (F 64 k)) ∧ okX12_crews FM GM (nI k) ∧ (gX12_crews FM GM (nI k)).1 60 = FM 60 ∧ (gX2_toil F G k (gX5_dykeAt F G (F 64 k))).1 0 = F 0 := by
  have hE := h.1.1
  have hR := h.2.1.1
  have hn := hE.1.1
  have hn8 : cn F 8 ≤ 8 := hn.1.2
  have hn32 : cn F 32 ≤ 8 := hn.2.2.2.2
  obtain ⟨⟨a, ha, v1⟩, v2, v3⟩ := h.1.2.2.1.2.1 k hk
  have r49 := hR.at 49 (by decide)
  have e51 : FM 51 k - 1 = F 64 k := by rw [(h.2.2.2.2.1 k hk).2]; exact Int32.add_sub_cancel _ _
  have hvk : vp_in (nI k) 3 := nI_vin hk (by omega)
  rcases v3 with e64 | ⟨d, hdk, e64⟩
  · -- nowhere sent
    have hda : gX5_dykeAt F G (F 64 k) = none := by rw [e64]; rfl
    refine ⟨?_, ?_, ?_, by unfold gX12_crews; rw [bvd, nI_clamp (show k < 2 ^ 31 by omega), e51, if_pos e64], by rw [hda]; unfold gX2_toil; rw [om_n]⟩
    · rw [hda]
      unfold gX2_toil gX12_crews
      rw [om_n, bvd, nI_clamp (show k < 2 ^ 31 by omega), e51, if_pos e64]
      exact ⟨h, hd⟩
    · rw [hda]; unfold okX2_toil; rw [om_n]; trivial
    · unfold okX12_crews
      refine ⟨hvk, ?_⟩
      rw [bvd, nI_clamp (show k < 2 ^ 31 by omega), e51]
      exact ⟨fun _ => trivial, fun e => absurd e64 e⟩
  · have hw := (h.1.2.1.2.2 d).1 hdk
    obtain ⟨g, hg, g1, g2⟩ := goal_m (G := G) hn8 hR hw.1
    have hda : gX5_dykeAt F G (F 64 k) = some d := by rw [e64]; exact da_in G hn32 hdk
    have hvd : vp_in (nI d) 8 := nI_vin (by omega) (by omega)
    have hne : ¬ nI d = -1 := nI_n1 (by omega)
    rw [hda]
    by_cases c1 : F 49 k = nI g
    · -- there
      obtain ⟨F1, G1, FM1, k1, k2, k3, k4, k5, k6, k7⟩ := wks_m h hd hk hdk
      have hcl : gX2_toil F G k (some d) = (F1, G1) := by
        unfold gX2_toil
        rw [om_s, bvd, g1, if_pos c1, ← k1]
        simp only [bvd, bsd]
      have hmd : gX12_crews FM GM (nI k) = (FM1, GM) := by
        unfold gX12_crews
        rw [bvd, nI_clamp (show k < 2 ^ 31 by omega), e51, e64, if_neg hne, bvd, nI_clamp (show d < 2 ^ 31 by omega), g2, r49, if_pos c1, bsd, k2]
      refine ⟨?_, ?_, ?_, by rw [hmd]; exact k6, by rw [hcl]; exact k7⟩
      · rw [hcl, hmd]
        exact ⟨k3, k4⟩
      · unfold okX2_toil
        rw [om_s]
        refine ⟨hdk, wp_ok hdk, ?_⟩
        rw [bvd, g1]
        refine ⟨hk, fun _ => ⟨hk, fun _ => trivial, fun _ => ⟨hdk, hurt_ok hdk, ?_⟩⟩, fun e => absurd c1 e⟩
        simp only [bvd]
        have e32 : ∀ v, cn (u2 F 50 k v) 32 = cn F 32 := fun v => cn_of (u2_other F (by decide) k v)
        exact ⟨fun _ => trivial, fun _ => ⟨hk, hk, by rw [e32]; exact hdk, bag_ok (by rw [e32]; exact hdk)⟩⟩
      · unfold okX12_crews
        refine ⟨hvk, ?_⟩
        rw [bvd, nI_clamp (show k < 2 ^ 31 by omega), e51, e64]
        refine ⟨fun e => absurd e hne, fun _ => ⟨hvd, ⟨fun _ => hvd, fun _ => hvd⟩, ?_⟩⟩
        rw [bvd, nI_clamp (show d < 2 ^ 31 by omega), g2, r49]
        exact ⟨hvk, fun _ => k5, fun e => absurd c1 e⟩
    · -- on the way
      have hg8 : g < 8 := by omega
      obtain ⟨q1, q2, q3⟩ := cE_mq h hd
      have hne2 : a ≠ g := fun e => c1 (by rw [v1, e])
      have hc0 : ∀ i, i < 8 → (itr (s0 g (-1)) 0 8 (F 68) i).toInt = if i = g then 0 else -1 := fun i hi => by
        rw [s0_v g (-1) (F 68) i hi]; split <;> rfl
      have hm0 : ∀ i, i < 8 → (itr (s0 g 100) 0 8 (FM 59) i).toInt = if i = g then 0 else 100 := fun i hi => by
        rw [s0_v g 100 (FM 59) i hi]; split <;> rfl
      have hfar := far_eq hn8 q2 q3 hc0 hm0
      have hnb := far_nb hn8 q2 q3 hm0
      have y0 : (0 : Int32).toInt = 0 := rfl
      have y1 : (1 : Int32).toInt = 1 := rfl
      have y100 : (100 : Int32).toInt = 100 := rfl
      -- the class
      have hcl : gX2_toil F G k (some d) = (u2 (fa F 68 (cF F G g)) 49 k (fst (cP F G (cF F G g) a) (nI a) 8 0), G) := by
        unfold gX2_toil
        rw [om_s, bvd, g1, if_neg c1, v1, nf_e ha hg8]
        simp only [brd, bvd]
      have hmeas : gX12_measures FM GM (nI g) = (fa FM 59 (mFar FM (cE F G) (cn F 8) g), GM) := nms_e q1 hg8
      obtain ⟨fc, hfc⟩ : ∃ fc, fc = cF F G g := ⟨_, rfl⟩
      obtain ⟨fm, hfm⟩ : ∃ fm, fm = mFar FM (cE F G) (cn F 8) g := ⟨_, rfl⟩
      have hfar : ∀ i, i < 8 → ((fm i).toInt < 100 ∧ (fc i).toInt = (fm i).toInt ∧ 0 ≤ (fm i).toInt) ∨ ((fm i).toInt = 100 ∧ (fc i).toInt = -1) := by rw [hfc, hfm]; exact hfar
      have hnb : ∀ i, i < 8 → (fm i).toInt < 100 → i = g ∨ i < cn F 8 := by rw [hfm]; exact hnb
      rw [← hfc] at hcl
      rw [← hfm] at hmeas
      have e49 : fa FM 59 fm 49 k = nI a := by rw [fa_o FM fm (by decide : 49 ≠ 59), r49, v1]
      have e8 : fa FM 59 fm 8 0 = nI (cn F 8) := by rw [fa_o FM fm (by decide : 8 ≠ 59), hR.at 8 (by decide)]; exact hn.1.1
      have eid : fa FM 59 fm = u2 (fa FM 59 fm) 49 k (nI a) := by
        have := u2_id (fa FM 59 fm) 49 k
        rw [e49] at this
        exact this.symm
      have dec1 : ∀ x : Int32, -1 ≤ x.toInt → x.toInt ≤ 100 → (x - 1).toInt = x.toInt - 1 := fun x h1 h2 => by rw [i32s (by rw [y1]; omega) (by rw [y1]; omega), y1]
      have hcPE : ∀ m, m < 8 → (cP F G fc a m = true → cE F G a m = true) := fun m hm hc => by
        unfold cP at hc
        rw [decide_eq_true_iff] at hc
        unfold cE
        exact decide_eq_true ⟨ha, hm, hc.2.2⟩
      -- the reference
      obtain ⟨hmd, hmok⟩ : gX12_crews_L80 (nI a) (nI k) (fun (_ : Int32) (F40 : jF) (G41 : jG) => (F40, G41)) 80 (nI (cn F 8) - 1) (fa FM 59 fm) GM = (u2 (fa FM 59 fm) 49 k (fst (cP F G fc a) (nI a) 8 0), GM) ∧ okX12_crews_L80 (nI a) (nI k) (fun _ _ _ => True) 80 (nI (cn F 8) - 1) (fa FM 59 fm) GM := by
        by_cases c2 : 100 ≤ fm a
        · have hfa : (fm a).toInt = 100 ∧ (fc a).toInt = -1 := by
            rcases hfar a ha with h1 | h1
            · rw [i32le, y100] at c2; omega
            · exact h1
          have hno : fst (cP F G fc a) (nI a) 8 0 = nI a := fst_no _ _ 8 0 (fun j _ hj => by
            cases hc : cP F G fc a j with
            | false => rfl
            | true =>
              exfalso
              unfold cP at hc
              rw [decide_eq_true_iff] at hc
              have h1 := hc.1
              have h2 := hc.2.1
              rw [i32lt, y0] at h1
              rw [i32eq, dec1 (fc a) (by omega) (by omega)] at h2
              omega)
          rw [hno, ← eid]
          have e59 : fa FM 59 fm 59 a = fm a := by rw [fa_at]
          constructor
          · rw [gX12_crews_L80, nI_clamp (show a < 2 ^ 31 by omega), e59, if_pos c2]
            split <;> rfl
          · rw [okX12_crews_L80, nI_clamp (show a < 2 ^ 31 by omega), e59]
            exact ⟨fun _ => trivial, fun _ => ⟨nI_vin ha (by omega), fun _ => trivial, fun e => absurd c2 e⟩⟩
        · have c2' := c2
          rw [i32le, y100] at c2'
          have hfa : (fm a).toInt < 100 ∧ (fc a).toInt = (fm a).toInt ∧ 0 ≤ (fm a).toInt := by
            rcases hfar a ha with h1 | h1
            · exact h1
            · omega
          have hanb : a < cn F 8 := by
            rcases hnb a ha hfa.1 with e | e
            · exact absurd e hne2
            · exact e
          have hp : ∀ m, m < cn F 8 → (cP F G fc a m = true ↔ (cE F G a m = true ∧ fm m = fm a - 1)) := fun m hm => by
            constructor
            · intro hc
              refine ⟨hcPE m (by omega) hc, ?_⟩
              unfold cP at hc
              rw [decide_eq_true_iff] at hc
              have h1 := hc.1
              have h2 := hc.2.1
              rw [i32lt, y0] at h1
              rw [i32eq, dec1 (fc a) (by omega) (by omega)] at h2
              rw [i32eq, dec1 (fm a) (by omega) (by omega)]
              rcases hfar m (by omega) with h3 | h3 <;> omega
            · rintro ⟨h1, h2⟩
              rw [i32eq, dec1 (fm a) (by omega) (by omega)] at h2
              unfold cE at h1
              rw [decide_eq_true_iff] at h1
              unfold cP
              refine decide_eq_true ⟨?_, ?_, h1.2.2⟩
              · rw [i32lt, y0]
                rcases hfar m (by omega) with h3 | h3 <;> omega
              · rw [i32eq, dec1 (fc a) (by omega) (by omega)]
                rcases hfar m (by omega) with h3 | h3 <;> omega
          have hl := m80_e q1 hanb hk fm (cP F G fc a) hp c2 (cn F 8) (Nat.le_refl _) (nI a) 80 (by omega)
          rw [← eid] at hl
          have h1 := lst_fst (cP F G fc a) (nI a) (cn F 8) 0
          have h2 := fst_add (cP F G fc a) (nI a) (cn F 8) (8 - cn F 8) 0 (fun j h1 h2 => by
            cases hc : cP F G fc a j with
            | false => rfl
            | true =>
              have := (q3 _ _ (hcPE j (by omega) hc)).2
              omega)
          rw [show cn F 8 + (8 - cn F 8) = 8 by omega] at h2
          have h3 : lst (cP F G fc a) (cn F 8) (nI a) = fst (cP F G fc a) (nI a) 8 0 := h1.trans h2.symm
          rw [h3] at hl
          exact hl
      have hmd2 : gX12_crews FM GM (nI k) = (u2 (fa FM 59 fm) 49 k (fst (cP F G fc a) (nI a) 8 0), GM) := by
        unfold gX12_crews
        rw [bvd, nI_clamp (show k < 2 ^ 31 by omega), e51, e64, if_neg hne, bvd, nI_clamp (show d < 2 ^ 31 by omega), g2, r49, if_neg c1, bsd, hmeas, bvd, bvd]
        show gX12_crews_L80 (fa FM 59 fm 49 k) (nI k) (fun (_ : Int32) (F40 : jF) (G41 : jG) => (F40, G41)) 80 (fa FM 59 fm 8 0 - 1) (fa FM 59 fm) GM = _
        rw [e49, e8]
        exact hmd
      obtain ⟨j, hj, ej⟩ := fst_in (cP F G fc a) a 8 0 (by omega) ha
      refine ⟨?_, ?_, ?_, by rw [hmd2]; show u2 (fa FM 59 fm) 49 k (fst (cP F G fc a) (nI a) 8 0) 60 = FM 60; rw [u2_other _ (by decide : 60 ≠ 49), fa_o FM fm (by decide : 60 ≠ 59)], by rw [hcl]; show u2 (fa F 68 fc) 49 k (fst (cP F G fc a) (nI a) 8 0) 0 = F 0; rw [u2_other _ (by decide : 0 ≠ 49), fa_o F fc (by decide : 0 ≠ 68)]⟩
      · rw [hcl, hmd2, ej]
        refine ⟨RR_49 (RR_fm fm (RR_fa (k2 := 0) (Or.inl rfl) fc h)) hk hj, ?_⟩
        refine DR_c (ag_off _ (by decide) k _) rfl (DR_c (fun j hj => fa_o F fc (fun e => by subst e; revert hj; decide)) rfl hd)
      · unfold okX2_toil
        rw [om_s]
        refine ⟨hdk, wp_ok hdk, ?_⟩
        rw [bvd, g1]
        refine ⟨hk, fun e => absurd e c1, fun _ => ⟨hk, by rw [v1]; exact nf_o ha hg8, ?_⟩⟩
        rw [v1, nf_e ha hg8, brd]
        exact hk
      · unfold okX12_crews
        refine ⟨hvk, ?_⟩
        rw [bvd, nI_clamp (show k < 2 ^ 31 by omega), e51, e64]
        refine ⟨fun e => absurd e hne, fun _ => ⟨hvd, ⟨fun _ => hvd, fun _ => hvd⟩, ?_⟩⟩
        rw [bvd, nI_clamp (show d < 2 ^ 31 by omega), g2, r49]
        refine ⟨hvk, fun e => absurd e c1, fun _ => ⟨nms_o q1 hg8, ?_⟩⟩
        rw [bsd, hmeas]
        refine ⟨hvk, ?_⟩
        rw [bvd, bvd]
        show okX12_crews_L80 (fa FM 59 fm 49 k) (nI k) (fun _ _ _ => True) 80 (fa FM 59 fm 8 0 - 1) (fa FM 59 fm) GM
        rw [e49, e8]
        exact hmok
