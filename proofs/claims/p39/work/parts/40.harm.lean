-- harms in an hour
theorem i64_ss (x y z : Int64) : x - y - z = x - (y + z) := by
  rw [Int64.sub_eq_add_neg, Int64.sub_eq_add_neg, Int64.sub_eq_add_neg, Int64.neg_add, Int64.add_assoc, Int64.sub_eq_add_neg]
theorem af_m {b : Int} {F FM : jF} {G GM : jG} (h : wE b F G) (hR : ag shF F FM) (hG : ag shG G GM) {i : Nat} (hi : i < cn F 8) : gX12_levelOf FM GM (nI i) - gX12_floorOf FM GM (nI i) = gX0_aboveFloor F G i := by
  have hn8 := h.1.1.1.2
  unfold gX12_floorOf gX0_aboveFloor
  simp only [bvd]
  rw [lo_m h hR hG (Or.inr (Or.inr ⟨i, hi, rfl⟩)), ho_in G hn8 hi, nI_clamp (by omega), hR.at 10 (by decide), hR.at 12 (by decide), i64_ss]
theorem af_ok {F : jF} {G : jG} {i : Nat} (hi : i < cn F 8) : okX0_aboveFloor F G i := by
  unfold okX0_aboveFloor
  rw [bvd]
  exact ⟨hi, ht_ok hi, hi, hi⟩
theorem fl_ok {FM : jF} {GM : jG} {i : Nat} (hi : i < 8) : okX12_floorOf FM GM (nI i) := by
  have hv : vp_in (nI i) 8 := nI_vin hi (by omega)
  unfold okX12_floorOf
  first | exact ⟨hv, hv⟩ | exact hv
theorem ch_ok {F : jF} {G : jG} {i : Nat} (hi : i < cn F 8) : okX0_countHarm F G i := by
  unfold okX0_countHarm
  simp only [bvd]
  exact ⟨hi, af_ok hi, hi, fun _ => trivial, fun _ => ⟨fun _ => trivial, fun _ => ⟨hi, hi, hi⟩⟩⟩
/-- a basin's harm, in the reference -/
def stHm (i : Nat) (S : jS) : jS := if S.1 13 i ≤ 0 then S else if gX12_levelOf S.1 S.2 (nI i) - gX12_floorOf S.1 S.2 (nI i) ≤ 0 then S else (S.1, u2 S.2 15 i (S.2 15 i + (S.1 13 i).toInt64 * ((if 9 ≤ (gX12_levelOf S.1 S.2 (nI i) - gX12_floorOf S.1 S.2 (nI i)) / 50 then 9 else (gX12_levelOf S.1 S.2 (nI i) - gX12_floorOf S.1 S.2 (nI i)) / 50) + 1)))
theorem RR_15 {b : Int} {c : Nat} {F FM : jF} {G GM : jG} (h : RR b c F G FM GM) {i : Nat} (hi : i < cn F 8) (v : Int64) : RR b c F (u2 G 15 i v) FM (u2 GM 15 i v) := by
  obtain ⟨⟨⟨a1, a2, a3, a4, a5, a6⟩, h2⟩, ⟨h3, h4⟩, h5⟩ := h
  obtain ⟨⟨g1, g2, g3⟩, g4, g5⟩ := h2
  refine ⟨⟨⟨a1, fun j => ?_, ⟨a3.1, fun j hj => ?_⟩, a4, a5, wZ_c a1 a1 (ag_rf _ F) (ag_off G (by decide) i v) a6⟩, ⟨⟨g1, g2, wD_c (ag_rf _ F) (u2_other G (by decide) i v) g3⟩, g4, g5⟩⟩, ⟨h3, ag_u2 h4 15 i rfl⟩, rX_c (ag_rf _ F) (ag_rf _ FM) (u2_other G (by decide) i v) (u2_other GM (by decide) i v) h5⟩
  · obtain ⟨w1, w2⟩ := a2 j
    refine ⟨w1, fun hj => ?_⟩
    rw [u2_same, if_neg (by omega), u2_other G (by decide : 14 ≠ 15)]
    exact w2 hj
  · have := a3.2 j hj
    unfold lev at *
    rw [u2_other G (by decide : 14 ≠ 15)]
    exact this
theorem maxle9 (x : Int64) : (if 9 ≤ x then 9 else x) = (if 9 < x then 9 else x) := by
  have z9 : (9 : Int64).toInt = 9 := rfl
  by_cases h1 : 9 < x
  · rw [if_pos h1, if_pos (by rw [i64le, z9]; rw [i64lt, z9] at h1; omega)]
  · rw [if_neg h1]
    by_cases h2 : 9 ≤ x
    · rw [if_pos h2]; rw [i64le, z9] at h2; rw [i64lt, z9] at h1; rw [i64eq, z9]; omega
    · rw [if_neg h2]
theorem harm_m {b : Int} {c : Nat} {F FM : jF} {G GM : jG} (h : RR b c F G FM GM) {i : Nat} (hi : i < cn F 8) : RR b c (gX0_countHarm F G i).1 (gX0_countHarm F G i).2 (stHm i (FM, GM)).1 (stHm i (FM, GM)).2 ∧ (gX0_countHarm F G i).1 = F := by
  have hE := h.1.1
  have hR := h.2.1.1
  have hG := h.2.1.2
  have e := af_m hE hR hG hi
  have r13 := hR.at 13 (by decide)
  have r15 := hG.at 15 (by decide)
  unfold gX0_countHarm stHm
  simp only [bvd]
  rw [e, r13, r15, maxle9]
  by_cases c1 : F 13 i ≤ 0
  · rw [if_pos c1, if_pos c1]
    exact ⟨h, rfl⟩
  · rw [if_neg c1, if_neg c1]
    by_cases c2 : gX0_aboveFloor F G i ≤ 0
    · rw [if_pos c2, if_pos c2]
      exact ⟨h, rfl⟩
    · rw [if_neg c2, if_neg c2]
      exact ⟨RR_15 h hi _, rfl⟩
