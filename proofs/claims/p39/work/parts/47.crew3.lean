-- crews, both
theorem rd_nb {E : Nat → Nat → Bool} {g : Nat} : ∀ d i, rd E g d i = true → i = g ∨ ∃ j, E j i = true := by
  intro d
  induction d with
  | zero => intro i h; exact Or.inl (of_decide_eq_true h)
  | succ d ih =>
    intro i h
    rcases rd_in h with h1 | ⟨j, -, -, h2⟩
    · exact ih i h1
    · exact Or.inr ⟨j, h2⟩
theorem far_nb {E : Nat → Nat → Bool} {g nb : Nat} (hnb : nb ≤ 8) (hs : ∀ a b, E a b = E b a) (hE : ∀ a b, E a b = true → a < nb ∧ b < nb) {fm : Nat → Int32} (hm0 : ∀ i, i < 8 → (fm i).toInt = if i = g then 0 else 100) : ∀ i, i < 8 → (itr (s33 E nb) 0 8 fm i).toInt < 100 → i = g ∨ i < nb := by
  have hM : mM E g (itr (s33 E nb) 0 8 fm) ∧ mT E g 8 (itr (s33 E nb) 0 8 fm) := itrP (s33 E nb) 8 (fun r f => mM E g f ∧ mT E g r f) (fun r f hr h => s33_T hnb hs hE h.1 h.2 r) 8 0 fm (by omega) ⟨fun i hi => by
    by_cases e : i = g
    · exact Or.inr ⟨0, by omega, by rw [hm0 i hi, if_pos e]; rfl, decide_eq_true e⟩
    · exact Or.inl (by rw [hm0 i hi, if_neg e]), fun i hi d hd hr => by
    have : d = 0 := by omega
    subst this
    have e : i = g := of_decide_eq_true hr
    rw [hm0 i hi, if_pos e]; decide⟩
  intro i hi hlt
  rcases hM.1 i hi with h1 | ⟨d, -, -, h1⟩
  · omega
  · rcases rd_nb d i h1 with e | ⟨j, e⟩
    · exact Or.inl e
    · exact Or.inr (hE _ _ e).2
theorem da_in {F : jF} (G : jG) {d : Nat} (hn : cn F 32 ≤ 8) (h : d < cn F 32) : gX5_dykeAt F G (nI d) = some d := by
  unfold gX5_dykeAt
  rw [if_neg (nI_pos (by omega)), n8, if_pos (nI_lt (by omega) (by omega)), bvd, nI_clamp (by omega), op_in h]
theorem da_ok {F : jF} {G : jG} (p : Int32) : okX5_dykeAt F G p := by
  unfold okX5_dykeAt
  refine ⟨fun _ => trivial, fun h => ⟨fun h8 => ?_, fun _ => trivial⟩⟩
  obtain ⟨j, hj, rfl⟩ := nI_of h
  rw [n8] at h8
  exact nI_vin ((nI_ltI hj (by omega)).mp h8) (by omega)
/-- work at a dyke -/
theorem wks_m {b : Int} {c : Nat} {F FM : jF} {G GM : jG} (h : RR b c F G FM GM) (hd : DR F G) {k d : Nat} (hk : k < 3) (hdk : d < cn F 32) : ∃ F1 G1 FM1, (if F 50 k ≤ 0 then (F, G) else if gX3_isHurt F G d = 0 then (F, G) else (gX3_bag (u2 F 50 k (F 50 k - 1)) G d)) = (F1, G1) ∧ gX12_works FM GM (nI k) (nI d) = (FM1, GM) ∧ RR b c F1 G1 FM1 GM ∧ DR F1 G1 ∧ okX12_works FM GM (nI k) (nI d) ∧ FM1 60 = FM 60 ∧ F1 0 = F 0 := by
  have hE := h.1.1
  have hR := h.2.1.1
  have hn : cn F 32 ≤ 8 := hE.1.1.2.2.2.2
  obtain ⟨w1, ⟨w2, w2'⟩, ⟨w3, w3'⟩, w4, w5⟩ := h.1.2.1.2.2 d
  obtain ⟨v1, ⟨v2, v2'⟩, v3⟩ := h.1.2.2.1.2.1 k hk
  have r39 := hR.at 39 (by decide)
  have r38 := h.2.2.2.1 d
  have r50 := (h.2.2.2.2.1 k hk).1
  have y0 : (0 : Int32).toInt = 0 := rfl
  have y3 : (3 : Int32).toInt = 3 := rfl
  have y15 : (15 : Int32).toInt = 15 := rfl
  have z0 : (0 : Int64).toInt = 0 := rfl
  have z15 : (15 : Int64).toInt = 15 := rfl
  have hvk : vp_in (nI k) 3 := nI_vin hk (by omega)
  have hvd : vp_in (nI d) 8 := nI_vin (by omega) (by omega)
  have i38 : (FM 38 d).toInt = (G 61 d).toInt := by rw [← r38, i3264]
  have hokm : okX12_works FM GM (nI k) (nI d) := by
    unfold okX12_works
    simp only [bvd]
    refine ⟨hvk, fun _ => trivial, fun _ => ⟨hvd, fun _ => ⟨hvd, fun _ => trivial, fun _ => ⟨hvk, hvk, ?_⟩⟩, fun _ => ⟨hvk, hvk, ?_⟩⟩⟩
    all_goals exact ⟨hvd, fun _ => ⟨hvd, ⟨fun _ => trivial, fun _ => hvd⟩, hvd⟩, fun _ => ⟨hvd, ⟨fun _ => trivial, fun _ => hvd⟩, hvd, hvd, ⟨fun _ => trivial, fun _ => hvd⟩, hvd⟩⟩
  by_cases c1 : F 50 k ≤ 0
  · refine ⟨F, G, FM, by rw [if_pos c1], ?_, h, hd, hokm, rfl, rfl⟩
    unfold gX12_works
    rw [nI_clamp (show k < 2 ^ 31 by omega), r50, if_pos (by rw [i32le, y0] at c1; rw [i32eq, y0]; omega)]
  · have c1' := c1
    rw [i32le, y0] at c1'
    have c1n : ¬ F 50 k = 0 := fun e => c1 (by rw [e]; decide)
    rw [if_neg c1]
    have hr := RR_50 h hk (by omega)
    have hd1 : DR (u2 F 50 k (F 50 k - 1)) G := DR_c (ag_off F (by decide) k _) rfl hd
    by_cases c2 : F 39 d = 0
    · -- not broken
      by_cases c3 : G 61 d ≤ 0
      · refine ⟨F, G, FM, ?_, ?_, h, hd, hokm, rfl, rfl⟩
        · unfold gX3_isHurt
          rw [if_neg (show ¬ 0 < F 39 d by rw [c2]; decide), if_pos c3, if_pos rfl]
        · unfold gX12_works
          rw [nI_clamp (show k < 2 ^ 31 by omega), nI_clamp (show d < 2 ^ 31 by omega), r50, r39, if_neg c1n, if_pos c2, if_pos (by rw [i64le, z0] at c3; rw [i32eq, y0, i38]; omega)]
      · have c3' := c3
        rw [i64le, z0] at c3'
        -- damage less
        obtain ⟨dm, dv, e1, e2, e3, e4, e5⟩ : ∃ (dm : Int64) (dv : Int32), (if G 61 d - 15 < 0 then 0 else G 61 d - 15) = dm ∧ (if FM 38 d ≤ 15 then 0 else FM 38 d - 15) = dv ∧ dv.toInt64 = dm ∧ 0 ≤ dm.toInt ∧ dm.toInt ≤ (G 61 d).toInt := by
          refine ⟨_, _, rfl, rfl, ?_⟩
          have s1 : (G 61 d - 15).toInt = (G 61 d).toInt - 15 := by rw [i64s (by rw [z15]; omega) (by rw [z15]; omega), z15]
          have s2 : (FM 38 d - 15).toInt = (G 61 d).toInt - 15 := by rw [i32s (by rw [y15, i38]; omega) (by rw [y15, i38]; omega), y15, i38]
          by_cases c4 : FM 38 d ≤ 15
          · rw [if_pos c4]
            rw [i32le, y15, i38] at c4
            by_cases c5 : G 61 d - 15 < 0
            · rw [if_pos c5]; exact ⟨rfl, by rw [z0]; omega, by rw [z0]; omega⟩
            · rw [if_neg c5]
              rw [i64lt, s1, z0] at c5
              exact ⟨by rw [i64eq, s1, i3264, y0]; omega, by rw [s1]; omega, by rw [s1]; omega⟩
          · rw [if_neg c4]
            rw [i32le, y15, i38] at c4
            rw [if_neg (show ¬ G 61 d - 15 < 0 by rw [i64lt, s1, z0]; omega)]
            exact ⟨by rw [i64eq, s1, i3264, s2], by rw [s1]; omega, by rw [s1]; omega⟩
        have e39 : u2 F 50 k (F 50 k - 1) 39 d = 0 := by rw [u2_other _ (by decide : 39 ≠ 50)]; exact c2
        have em39 : u2 FM 50 k (F 50 k - 1) 39 d = 0 := by rw [u2_other _ (by decide : 39 ≠ 50), r39]; exact c2
        have em38 : u2 FM 50 k (F 50 k - 1) 38 d = FM 38 d := by rw [u2_other _ (by decide : 38 ≠ 50)]
        have hr2 := RR_39 hr (i := d) (v := 0) (d := dv) (dm := dm) (by rw [cn_of (u2_other F (by decide : 32 ≠ 50) k _)]; exact hdk) e3 (by decide) (by decide) e4 (by omega) (fun _ => by have := w4 c2; omega)
        have i1 : u2 (u2 F 50 k (F 50 k - 1)) 39 d 0 = u2 F 50 k (F 50 k - 1) := by
          have := u2_id (u2 F 50 k (F 50 k - 1)) 39 d
          rwa [e39] at this
        have i2 : u2 (u2 (u2 FM 50 k (F 50 k - 1)) 38 d dv) 39 d 0 = u2 (u2 FM 50 k (F 50 k - 1)) 38 d dv := by
          have := u2_id (u2 (u2 FM 50 k (F 50 k - 1)) 38 d dv) 39 d
          rwa [u2_other _ (by decide : 39 ≠ 38), em39] at this
        rw [i1, i2] at hr2
        refine ⟨u2 F 50 k (F 50 k - 1), u2 G 61 d dm, u2 (u2 FM 50 k (F 50 k - 1)) 38 d dv, ?_, ?_, hr2, DR_c (ag_rf _ _) (u2_other G (by decide : 14 ≠ 61) d dm) hd1, hokm, by simp only [u2_other _ (show 60 ≠ 38 by decide), u2_other _ (show 60 ≠ 39 by decide), u2_other _ (show 60 ≠ 50 by decide)], by simp only [u2_other _ (show 0 ≠ 39 by decide), u2_other _ (show 0 ≠ 50 by decide)]⟩
        · unfold gX3_isHurt gX3_bag
          rw [if_neg (show ¬ 0 < F 39 d by rw [c2]; decide), if_neg c3, if_neg (show ¬ (1 : Int32) = 0 by decide), e39, if_neg (show ¬ (0 : Int32) < 0 by decide)]
          simp only [bvd]
          rw [e1]
        · unfold gX12_works
          simp only [bvd]
          rw [nI_clamp (show k < 2 ^ 31 by omega), nI_clamp (show d < 2 ^ 31 by omega), r50, r39, if_neg c1n, if_pos c2, if_neg (show ¬ FM 38 d = 0 by rw [i32eq, y0, i38]; omega), em39, em38, if_pos (show (0 : Int32) ≤ 0 by decide), e2]
    · -- broken
      have c2' : 1 ≤ (F 39 d).toInt := by
        rw [i32eq, y0] at c2; omega
      have e39 : u2 F 50 k (F 50 k - 1) 39 d = F 39 d := by rw [u2_other _ (by decide : 39 ≠ 50)]
      have em39 : u2 FM 50 k (F 50 k - 1) 39 d = F 39 d := by rw [u2_other _ (by decide : 39 ≠ 50), r39]
      have em38 : u2 FM 50 k (F 50 k - 1) 38 d = FM 38 d := by rw [u2_other _ (by decide : 38 ≠ 50)]
      have s3 : (F 39 d - 3).toInt = (F 39 d).toInt - 3 := by rw [i32s (by rw [y3]; omega) (by rw [y3]; omega), y3]
      obtain ⟨v, e1, e2, e3, e4⟩ : ∃ v : Int32, (if 0 < F 39 d - 3 then F 39 d - 3 else 0) = v ∧ (if F 39 d ≤ 3 then 0 else F 39 d - 3) = v ∧ 0 ≤ v.toInt ∧ v.toInt ≤ 10 := by
        refine ⟨_, rfl, ?_⟩
        by_cases c4 : F 39 d ≤ 3
        · rw [if_pos c4]
          rw [i32le, y3] at c4
          rw [if_neg (show ¬ 0 < F 39 d - 3 by rw [i32lt, y0, s3]; omega)]
          exact ⟨rfl, by decide, by decide⟩
        · rw [if_neg c4]
          rw [i32le, y3] at c4
          rw [if_pos (show 0 < F 39 d - 3 by rw [i32lt, y0, s3]; omega)]
          exact ⟨rfl, by rw [s3]; omega, by rw [s3]; omega⟩
      have hr2 := RR_39 hr (i := d) (v := v) (d := if v = 0 then 0 else FM 38 d) (dm := if v = 0 then 0 else G 61 d) (by rw [cn_of (u2_other F (by decide : 32 ≠ 50) k _)]; exact hdk) (by split; rfl; exact r38) e3 e4 (by split; decide; exact w3) (by split; decide; exact w3') (fun e => by rw [if_pos e]; decide)
      rw [u2_cm _ (by decide : 38 ≠ 39)] at hr2
      refine ⟨u2 (u2 F 50 k (F 50 k - 1)) 39 d v, u2 G 61 d (if v = 0 then 0 else G 61 d), u2 (u2 (u2 FM 50 k (F 50 k - 1)) 39 d v) 38 d (if v = 0 then 0 else FM 38 d), ?_, ?_, hr2, DR_c (ag_off _ (by decide) d v) (u2_other G (by decide : 14 ≠ 61) d _) hd1, hokm, by simp only [u2_other _ (show 60 ≠ 38 by decide), u2_other _ (show 60 ≠ 39 by decide), u2_other _ (show 60 ≠ 50 by decide)], by simp only [u2_other _ (show 0 ≠ 39 by decide), u2_other _ (show 0 ≠ 50 by decide)]⟩
      · unfold gX3_isHurt gX3_bag
        rw [if_pos (show 0 < F 39 d by rw [i32lt, y0]; omega), if_neg (show ¬ (1 : Int32) = 0 by decide), e39, if_pos (show 0 < F 39 d by rw [i32lt, y0]; omega)]
        simp only [bvd]
        rw [e1, u2_at]
        by_cases c5 : v = 0
        · rw [if_pos c5, if_pos c5]
        · rw [if_neg c5, if_neg c5, u2_id]
      · unfold gX12_works
        simp only [bvd]
        rw [nI_clamp (show k < 2 ^ 31 by omega), nI_clamp (show d < 2 ^ 31 by omega), r50, r39, if_neg c1n, if_neg c2, em39, if_neg (show ¬ F 39 d ≤ 0 by rw [i32le, y0]; omega), e2, u2_at, u2_other _ (by decide : 38 ≠ 39), em38]
