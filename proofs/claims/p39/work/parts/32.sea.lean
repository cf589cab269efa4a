-- the sea
theorem in_z {x a b : Int32} : gX12_in x a b = 0 ↔ (x < a ∨ b < x) := by
  unfold gX12_in
  by_cases h1 : x < a
  · rw [if_pos h1]; exact ⟨fun _ => Or.inl h1, fun _ => rfl⟩
  · rw [if_neg h1]
    by_cases h2 : b < x
    · rw [if_pos h2]; exact ⟨fun _ => Or.inr h2, fun _ => rfl⟩
    · rw [if_neg h2]; exact ⟨fun h => absurd h (by decide), fun h => absurd h (by rintro (h | h); exact h1 h; exact h2 h)⟩
theorem minle (a b : Int32) : (if a ≤ b then a else b) = (if a < b then a else b) := by
  by_cases h1 : a < b
  · rw [if_pos h1, if_pos (by rw [i32le]; rw [i32lt] at h1; omega)]
  · rw [if_neg h1]
    by_cases h2 : a ≤ b
    · rw [if_pos h2]; rw [i32le] at h2; rw [i32lt] at h1; rw [i32eq]; omega
    · rw [if_neg h2]
theorem maxle (x v : Int64) : (if x ≤ v then v else x) = (if x < v then v else x) := by
  by_cases h1 : x < v
  · rw [if_pos h1, if_pos (by rw [i64le]; rw [i64lt] at h1; omega)]
  · rw [if_neg h1]
    by_cases h2 : x ≤ v
    · rw [if_pos h2]; rw [i64le] at h2; rw [i64lt] at h1; rw [i64eq]; omega
    · rw [if_neg h2]
/-- a storm's part -/
theorem surge_m {F : jF} (G : jG) (hS : wS F) {i : Nat} (hi : i < cn F 40) {p : Int32} (h0 : 0 ≤ p.toInt) (h1 : p.toInt ≤ 20000) : (0 ≤ (gX9_surgeAt F G i p).toInt ∧ (gX9_surgeAt F G i p).toInt ≤ 50000) ∧ (¬ (F 42 i + 1).toInt64 = (0 : Int64)) ∧ ((gX12_in (p - F 41 i) 0 (F 42 i - 1) = 0 ∧ gX9_surgeAt F G i p = 0) ∨ (gX12_in (p - F 41 i) 0 (F 42 i - 1) ≠ 0 ∧ gX9_surgeAt F G i p = ((((100 * (F 43 i).toInt64) * (if (F 42 i - (p - F 41 i)) ≤ ((p - F 41 i) + 1) then (F 42 i - (p - F 41 i)) else ((p - F 41 i) + 1)).toInt64) * 2) / (F 42 i + 1).toInt64))) := by
  obtain ⟨⟨hb0, hb1⟩, ⟨hl0, hl1⟩, ⟨hp0, hp1⟩⟩ := hS i hi
  have z0 : (0 : Int32).toInt = 0 := rfl
  have z1 : (1 : Int32).toInt = 1 := rfl
  have z2 : (2 : Int64).toInt = 2 := rfl
  have y0 : (0 : Int64).toInt = 0 := rfl
  have e2 : (p - F 41 i).toInt = p.toInt - (F 41 i).toInt := i32s (by omega) (by omega)
  have e3 : (p - F 41 i + 1).toInt = p.toInt - (F 41 i).toInt + 1 := by rw [i32a (by rw [e2, z1]; omega) (by rw [e2, z1]; omega), e2, z1]
  have e4 : (F 42 i - (p - F 41 i)).toInt = (F 42 i).toInt - (p.toInt - (F 41 i).toInt) := by rw [i32s (by rw [e2]; omega) (by rw [e2]; omega), e2]
  have e5 : (F 42 i - 1).toInt = (F 42 i).toInt - 1 := by rw [i32s (by rw [z1]; omega) (by rw [z1]; omega), z1]
  have e6 : (F 42 i + 1).toInt = (F 42 i).toInt + 1 := by rw [i32a (by rw [z1]; omega) (by rw [z1]; omega), z1]
  have hne : ¬ (F 42 i + 1).toInt64 = (0 : Int64) := by rw [i64eq, i3264, e6, y0]; omega
  unfold gX9_surgeAt
  simp only [bvd]
  by_cases c1 : p - F 41 i < 0
  · rw [if_pos c1]
    exact ⟨⟨by rw [y0]; omega, by rw [y0]; omega⟩, hne, Or.inl ⟨in_z.mpr (Or.inl c1), rfl⟩⟩
  rw [if_neg c1]
  by_cases c2 : F 42 i - (p - F 41 i) ≤ 0
  · rw [if_pos c2]
    refine ⟨⟨by rw [y0]; omega, by rw [y0]; omega⟩, hne, Or.inl ⟨in_z.mpr (Or.inr ?_), rfl⟩⟩
    rw [i32le, e4, z0] at c2
    rw [i32lt, e5, e2]; omega
  rw [if_neg c2, if_pos (by rw [i32le, z0]; omega), ← minle]
  rw [i32le, e4, z0] at c2
  rw [i32lt, e2, z0] at c1
  refine ⟨?_, hne, Or.inr ⟨fun h => ?_, rfl⟩⟩
  · generalize hm : (if (F 42 i - (p - F 41 i)) ≤ ((p - F 41 i) + 1) then (F 42 i - (p - F 41 i)) else ((p - F 41 i) + 1)) = m
    have hm1 : 1 ≤ m.toInt ∧ 2 * m.toInt ≤ (F 42 i).toInt + 1 := by
      by_cases c3 : (F 42 i - (p - F 41 i)) ≤ ((p - F 41 i) + 1)
      · rw [if_pos c3] at hm; rw [← hm, e4]; rw [i32le, e4, e3] at c3; omega
      · rw [if_neg c3] at hm; rw [← hm, e3]; rw [i32le, e4, e3] at c3; omega
    have q1 : (100 * (F 43 i).toInt64).toInt = 100 * (F 43 i).toInt := by rw [i64m (by rw [c100, i3264]; omega) (by rw [c100, i3264]; omega), c100, i3264]
    have q2 : 0 ≤ 100 * (F 43 i).toInt * m.toInt := Int.mul_nonneg (by omega) (by omega)
    have q3 : 100 * (F 43 i).toInt * (2 * m.toInt) ≤ 100 * (F 43 i).toInt * ((F 42 i).toInt + 1) := Int.mul_le_mul_of_nonneg_left hm1.2 (by omega)
    have q4 : 100 * (F 43 i).toInt * ((F 42 i).toInt + 1) ≤ 50000 * ((F 42 i).toInt + 1) := Int.mul_le_mul_of_nonneg_right (by omega) (by omega)
    have q5 : 100 * (F 43 i).toInt * (2 * m.toInt) = 100 * (F 43 i).toInt * m.toInt * 2 := by rw [Int.mul_comm 2, Int.mul_assoc, Int.mul_assoc, Int.mul_assoc]
    have q6 : (100 * (F 43 i).toInt64 * m.toInt64).toInt = 100 * (F 43 i).toInt * m.toInt := by rw [i64m (by rw [q1, i3264]; omega) (by rw [q1, i3264]; omega), q1, i3264]
    have q7 : (100 * (F 43 i).toInt64 * m.toInt64 * 2).toInt = 100 * (F 43 i).toInt * m.toInt * 2 := by rw [i64m (by rw [q6, z2]; omega) (by rw [q6, z2]; omega), q6, z2]
    rw [i64d (by rw [q7]; omega) (by rw [i3264, e6]; omega), q7, i3264, e6]
    refine ⟨Int.ediv_nonneg (by omega) (by omega), ?_⟩
    refine Int.ediv_le_of_le_mul (by omega) (by omega)
  · rcases in_z.mp h with h | h
    · rw [i32lt, e2, z0] at h; omega
    · rw [i32lt, e5, e2] at h; omega
/-- one storm more -/
def sgS (F : jF) (G : jG) (p : Int32) (i : Nat) (v : Int64) : Int64 := if i < cn F 40 then (if gX9_surgeAt F G i p < v then v else gX9_surgeAt F G i p) else v
def sgR (F : jF) (G : jG) (p : Int32) : Int64 := itr (sgS F G p) 0 (cn F 40) 0
theorem op_in {n i : Nat} (h : i < n) : op n i = some i := if_pos h
theorem op_no {n i : Nat} (h : ¬ i < n) : op n i = none := if_neg h
theorem sg_eq {F : jF} (G : jG) (hN : wN F) (p : Int32) : gX6_greatestSurge F G p = sgR F G p := by
  have h12 := hN.2.1.2
  have h := lpE (fun n i (v : Int64) => gX6_greatestSurge_L5 F G p (fun (_ : Int32) (y : Int64) => y) n i v) (fun _ v => v) (sgS F G p) 12 (fun _ _ => True) (fun n i v hi _ => by
    show gX6_greatestSurge_L5 F G p (fun (_ : Int32) (y : Int64) => y) (n + 1) (nI i) v = _
    rw [gX6_greatestSurge_L5]
    simp only [bvd]
    unfold sgS
    rw [n12, if_neg (nI_ge hi (by omega)), nI_clamp (by omega), ← nI_1]
    by_cases hc : i < cn F 40
    · rw [op_in hc, if_pos hc]; rfl
    · rw [op_no hc, if_neg hc]; rfl) (fun _ _ _ _ => trivial) (fun n v _ => by
    show gX6_greatestSurge_L5 F G p (fun (_ : Int32) (y : Int64) => y) (n + 1) (nI 12) v = _
    rw [gX6_greatestSurge_L5]
    rw [n12, if_pos (nI_le (Nat.le_refl _) (by omega))]) 12 0 80 0 (by omega) (by omega) trivial
  unfold gX6_greatestSurge
  rw [nI_0] at h
  rw [h]
  exact itr_cut _ 12 _ hN.2.1.2 _ (fun j hj => by unfold sgS; rw [if_neg (by omega)])
theorem sg_b {F : jF} (G : jG) (hS : wS F) {p : Int32} (h0 : 0 ≤ p.toInt) (h1 : p.toInt ≤ 20000) : 0 ≤ (sgR F G p).toInt ∧ (sgR F G p).toInt ≤ 50000 := by
  unfold sgR
  refine itrP (sgS F G p) (cn F 40) (fun _ v => 0 ≤ v.toInt ∧ v.toInt ≤ 50000) (fun i v hi hv => ?_) _ 0 0 (by omega) (by decide)
  unfold sgS
  rw [if_pos hi]
  split
  · exact hv
  · exact (surge_m G hS hi h0 h1).1
/-- the tide -/
theorem tide_b {F : jF} (G : jG) (hO : wO F) {p : Int32} (h0 : 0 ≤ p.toInt) (h1 : p.toInt ≤ 20000) : -200 ≤ (gX6_tideAt F G p).toInt ∧ (gX6_tideAt F G p).toInt ≤ 400 := by
  obtain ⟨-, ⟨hr0, hr1⟩, -⟩ := hO
  have z12 : (12 : Int32).toInt = 12 := rfl
  have z6 : (6 : Int32).toInt = 6 := rfl
  have z2 : (2 : Int32).toInt = 2 := rfl
  have d1 : (p / 12).toInt = p.toInt / 12 := by rw [Int32.toInt_div_of_ne_right _ _ (by decide), Int.tdiv_eq_ediv_of_nonneg h0, z12]
  have d2 : (p / 12 * 12).toInt = p.toInt / 12 * 12 := by rw [i32m (by rw [d1, z12]; omega) (by rw [d1, z12]; omega), d1, z12]
  have d3 : (p - p / 12 * 12).toInt = p.toInt - p.toInt / 12 * 12 := by rw [i32s (by rw [d2]; omega) (by rw [d2]; omega), d2]
  unfold gX6_tideAt
  simp only [bvd]
  generalize hm : (if 6 < p - p / 12 * 12 then 12 - (p - p / 12 * 12) else p - p / 12 * 12) = m
  have hm1 : 0 ≤ m.toInt ∧ m.toInt ≤ 6 := by
    by_cases c : 6 < p - p / 12 * 12
    · rw [if_pos c] at hm; rw [i32lt, d3, z6] at c
      rw [← hm, i32s (by rw [d3, z12]; omega) (by rw [d3, z12]; omega), d3, z12]; omega
    · rw [if_neg c] at hm; rw [i32lt, d3, z6] at c; rw [← hm, d3]; omega
  have q0 : 0 ≤ (F 6 0).toInt * m.toInt := Int.mul_nonneg hr0 hm1.1
  have q1 : (F 6 0).toInt * m.toInt ≤ 400 * m.toInt := Int.mul_le_mul_of_nonneg_right hr1 hm1.1
  have e1 : (F 6 0 * m).toInt = (F 6 0).toInt * m.toInt := i32m (by omega) (by omega)
  have e2 : (F 6 0 * m / 6).toInt = (F 6 0).toInt * m.toInt / 6 := by rw [Int32.toInt_div_of_ne_right _ _ (by decide), e1, Int.tdiv_eq_ediv_of_nonneg q0, z6]
  have e3 : (F 6 0 / 2).toInt = (F 6 0).toInt / 2 := by rw [Int32.toInt_div_of_ne_right _ _ (by decide), Int.tdiv_eq_ediv_of_nonneg hr0, z2]
  rw [i32s (by rw [e2, e3]; omega) (by rw [e2, e3]; omega), e2, e3]
  omega
theorem sea_b {F : jF} (G : jG) (hN : wN F) (hS : wS F) (hO : wO F) {p : Int32} (h0 : 0 ≤ p.toInt) (h1 : p.toInt ≤ 20000) : -30000 ≤ (gX6_seaAt F G p).toInt ∧ (gX6_seaAt F G p).toInt ≤ 99900 := by
  have ht := tide_b G hO h0 h1
  have hs := sg_b G hS h0 h1
  obtain ⟨⟨hm0, hm1⟩, -⟩ := hO
  unfold gX6_seaAt
  simp only [bvd]
  rw [sg_eq G hN]
  have e1 : (F 5 0 + gX6_tideAt F G p).toInt = (F 5 0).toInt + (gX6_tideAt F G p).toInt := i32a (by omega) (by omega)
  have e2 : (100 * (F 5 0 + gX6_tideAt F G p).toInt64).toInt = 100 * ((F 5 0).toInt + (gX6_tideAt F G p).toInt) := by rw [i64m (by rw [c100, i3264, e1]; omega) (by rw [c100, i3264, e1]; omega), c100, i3264, e1]
  rw [i64a (by rw [e2]; omega) (by rw [e2]; omega), e2]
  omega
/-- the reference's sea is the same -/
theorem sea_m {F FM : jF} (G GM : jG) (hN : wN F) (hS : wS F) (hR : ag shF F FM) {p : Int32} (h0 : 0 ≤ p.toInt) (h1 : p.toInt ≤ 20000) : gX12_seaAt FM GM p = gX6_seaAt F G p := by
  have h12 := hN.2.1
  have r5 := hR.at 5 (by decide)
  have r6 := hR.at 6 (by decide)
  have r40 := hR.at 40 (by decide)
  have r41 := hR.at 41 (by decide)
  have r42 := hR.at 42 (by decide)
  have r43 := hR.at 43 (by decide)
  unfold gX12_seaAt gX6_seaAt gX6_tideAt
  simp only [bvd]
  rw [r5, r6, sg_eq G hN]
  generalize (if 6 < p - p / 12 * 12 then 12 - (p - p / 12 * 12) else p - p / 12 * 12) = m
  have ea : F 5 0 + F 6 0 * m / 6 - F 6 0 / 2 = F 5 0 + (F 6 0 * m / 6 - F 6 0 / 2) := by
    rw [Int32.sub_eq_add_neg, Int32.sub_eq_add_neg, Int32.add_assoc]
  rw [ea]
  generalize 100 * (F 5 0 + (F 6 0 * m / 6 - F 6 0 / 2)).toInt64 = q
  have h := lpE (fun n i (v : Int64) => gX12_seaAt_L51 FM GM q p (fun (_ : Int32) (y : Int64) => q + y) n i v) (fun _ v => q + v) (sgS F G p) (cn F 40) (fun _ v => 0 ≤ v.toInt ∧ v.toInt ≤ 50000) (fun n i v hi hv => by
    show gX12_seaAt_L51 FM GM q p (fun (_ : Int32) (y : Int64) => q + y) (n + 1) (nI i) v = _
    rw [gX12_seaAt_L51]
    simp only [bvd]
    rw [r40, r41, r42, r43, h12.1, if_neg (nI_ge hi (by omega)), nI_clamp (by omega), ← nI_1]
    unfold sgS
    rw [if_pos hi]
    rcases (surge_m G hS hi h0 h1).2.2 with ⟨a1, a2⟩ | ⟨a1, a2⟩
    · rw [if_pos a1, a2]
      have z0 : (0 : Int64).toInt = 0 := rfl
      by_cases c : (0 : Int64) < v
      · rw [if_pos c]
      · rw [if_neg c]
        have : v = 0 := by rw [i64lt] at c; rw [i64eq]; omega
        rw [this]
    · rw [if_neg a1, ← a2, maxle]) (fun i v hi hv => by
    unfold sgS
    rw [if_pos hi]
    split
    · exact hv
    · exact (surge_m G hS hi h0 h1).1) (fun n v _ => by
    show gX12_seaAt_L51 FM GM q p (fun (_ : Int32) (y : Int64) => q + y) (n + 1) (nI (cn F 40)) v = _
    rw [gX12_seaAt_L51]
    rw [r40, h12.1, if_pos (nI_le (Nat.le_refl _) (by omega))]) (cn F 40) 0 80 0 (by omega) (by omega) (by decide)
  rw [nI_0] at h
  rw [h]
  rfl
