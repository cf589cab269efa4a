-- water from end to end
def wE (b : Int) (F : jF) (G : jG) : Prop := wN F ∧ wB F G ∧ wL b F G ∧ wS F ∧ wO F ∧ wZ F G
theorem wN.hr {F : jF} (h : wN F) : 0 ≤ (F 0 0).toInt ∧ (F 0 0).toInt ≤ 9999 := by
  have h1 := h.2.2.2.2
  rw [h1.1, nI_toInt (by omega)]
  omega
theorem wE.sea {b : Int} {F : jF} {G : jG} (h : wE b F G) : -30000 ≤ (G 69 0).toInt ∧ (G 69 0).toInt ≤ 99900 := by
  have hh := h.1.hr
  rw [h.2.2.2.2.2.1]
  exact sea_b G h.1 h.2.2.2.1 h.2.2.2.2.1 hh.1 (by omega)
theorem ho_in {F : jF} (G : jG) {j : Nat} (hn : cn F 8 ≤ 8) (h : j < cn F 8) : gX10_heightOf F G (nI j) = gX0_height F G j := by
  unfold gX10_heightOf
  simp only [bvd]
  rw [if_neg (nI_n20 (by omega)), if_neg (nI_n21 (by omega)), ba_in _ hn h]
  rfl
theorem ho_20 (F : jF) (G : jG) : gX10_heightOf F G 20 = G 69 0 := rfl
theorem ho_21 (F : jF) (G : jG) : gX10_heightOf F G 21 = (F 7 0).toInt64 := rfl
/-- bounds of an end's height -/
theorem ho_b {b : Int} {F : jF} {G : jG} (h : wE b F G) {p : Int32} (hp : eo F p) : -90000 ≤ (gX10_heightOf F G p).toInt ∧ (gX10_heightOf F G p).toInt ≤ 172000100000 := by
  rcases hp with rfl | rfl | ⟨j, hj, rfl⟩
  · have := h.sea; rw [ho_20]; omega
  · have := h.2.2.2.2.1.2.2.1; rw [ho_21, i3264]; omega
  · have h1 := lev_b h.1 h.2.1 h.2.2.1 hj
    have h2 := ht_lev h.1 h.2.1 h.2.2.1 hj
    rw [ho_in _ h.1.1.1.2 hj, h2.1]; exact h1.2
theorem lo_all (F : jF) (G : jG) (p : Int32) : gX12_levelOf F G p = if p = 20 then gX12_seaAt F G (F 0 0) else if p = 21 then (F 7 0).toInt64 else 100 * (F 10 p.toNatClampNeg).toInt64 + 100 * G 14 p.toNatClampNeg / (F 9 p.toNatClampNeg).toInt64 := by
  unfold gX12_levelOf
  simp only [bvd]
theorem lo_20 (F : jF) (G : jG) : gX12_levelOf F G 20 = gX12_seaAt F G (F 0 0) := by
  rw [lo_all, if_pos (show (20 : Int32) = 20 from rfl)]
theorem lo_21 (F : jF) (G : jG) : gX12_levelOf F G 21 = (F 7 0).toInt64 := by
  rw [lo_all, if_neg (show ¬ (21 : Int32) = 20 by decide), if_pos (show (21 : Int32) = 21 from rfl)]
theorem lo_in (F : jF) (G : jG) {j : Nat} (h : j < 20) : gX12_levelOf F G (nI j) = 100 * (F 10 j).toInt64 + 100 * G 14 j / (F 9 j).toInt64 := by
  rw [lo_all, if_neg (nI_n20 h), if_neg (nI_n21 (by omega)), nI_clamp (by omega)]
/-- the reference's levels are the same -/
theorem lo_m {b : Int} {F FM : jF} {G GM : jG} (h : wE b F G) (hR : ag shF F FM) (hG : ag shG G GM) {p : Int32} (hp : eo F p) : gX12_levelOf FM GM p = gX10_heightOf F G p := by
  have hh := h.1.hr
  have hz : G 69 0 = gX6_seaAt F G (F 0 0) := h.2.2.2.2.2.1
  rcases hp with rfl | rfl | ⟨j, hj, rfl⟩
  · rw [lo_20, hR.at 0 (by decide), ho_20, hz]
    exact sea_m G GM h.1 h.2.2.2.1 hR hh.1 (by omega)
  · rw [lo_21, hR.at 7 (by decide), ho_21]
  · have hn := h.1.1.1.2
    rw [lo_in _ _ (by omega), ho_in _ hn hj, (ht_lev h.1 h.2.1 h.2.2.1 hj).2, hR.at 10 (by decide), hR.at 9 (by decide), hG.at 14 (by decide)]
theorem ge20 {j : Nat} (h : j < 20) : ¬ (20 : Int32) ≤ nI j := by
  rw [i32le, nI_toInt (by omega)]
  have : (20 : Int32).toInt = 20 := rfl
  omega
/-- what would go between two basins -/
theorem lv_ij {b : Int} {F FM : jF} {G GM : jG} (h : wE b F G) (hR : ag shF F FM) (hG : ag shG G GM) {i j : Nat} (hi : i < cn F 8) (hj : j < cn F 8) {D : Int64} (hD0 : 0 ≤ D.toInt) (hD1 : D.toInt ≤ 173000000000) (hD : gX12_levelOf FM GM (nI i) - gX12_levelOf FM GM (nI j) = D) : gX12_levels FM GM (nI i) (nI j) = (if gX10_levelling F G (nI i) (nI j) D ≤ G 14 i then gX10_levelling F G (nI i) (nI j) D else G 14 i) ∧ gX10_stockOf F G (nI i) = G 14 i ∧ 0 ≤ (gX10_levelling F G (nI i) (nI j) D).toInt ∧ 100 * (gX10_levelling F G (nI i) (nI j) D).toInt ≤ D.toInt * (F 9 j).toInt := by
  have hn := h.1.1.1.2
  obtain ⟨⟨a1, a2⟩, -⟩ := (h.2.1 i).1 hi
  obtain ⟨⟨b1, b2⟩, -⟩ := (h.2.1 j).1 hj
  have z0 : (0 : Int64).toInt = 0 := rfl
  have e1 : (F 9 i + F 9 j).toInt = (F 9 i).toInt + (F 9 j).toInt := i32a (by omega) (by omega)
  have q1 : 0 ≤ D.toInt * (F 9 i).toInt := Int.mul_nonneg hD0 (by omega)
  have q2 : D.toInt * (F 9 i).toInt ≤ 173000000000 * 100 := Int.le_trans (Int.mul_le_mul_of_nonneg_right hD1 (by omega)) (Int.mul_le_mul_of_nonneg_left a2 (by omega))
  have q3 : 0 ≤ D.toInt * (F 9 i).toInt * (F 9 j).toInt := Int.mul_nonneg q1 (by omega)
  have q4 : D.toInt * (F 9 i).toInt * (F 9 j).toInt ≤ 173000000000 * 100 * 100 := Int.le_trans (Int.mul_le_mul_of_nonneg_right q2 (by omega)) (Int.mul_le_mul_of_nonneg_left b2 (by omega))
  have f1 : (D * (F 9 i).toInt64).toInt = D.toInt * (F 9 i).toInt := by rw [i64m (by rw [i3264]; omega) (by rw [i3264]; omega), i3264]
  have f2 : (D * (F 9 i).toInt64 * (F 9 j).toInt64).toInt = D.toInt * (F 9 i).toInt * (F 9 j).toInt := by rw [i64m (by rw [f1, i3264]; omega) (by rw [f1, i3264]; omega), f1, i3264]
  have f3 : (D * (F 9 i).toInt64 * (F 9 j).toInt64 / (F 9 i + F 9 j).toInt64).toInt = D.toInt * (F 9 i).toInt * (F 9 j).toInt / ((F 9 i).toInt + (F 9 j).toInt) := by rw [i64d (by rw [f2]; omega) (by rw [i3264, e1]; omega), f2, i3264, e1]
  have q5 : 0 ≤ D.toInt * (F 9 i).toInt * (F 9 j).toInt / ((F 9 i).toInt + (F 9 j).toInt) := Int.ediv_nonneg q3 (by omega)
  have f4 : (D * (F 9 i).toInt64 * (F 9 j).toInt64 / (F 9 i + F 9 j).toInt64 / 100).toInt = D.toInt * (F 9 i).toInt * (F 9 j).toInt / (((F 9 i).toInt + (F 9 j).toInt) * 100) := by rw [i64d (by rw [f3]; omega) (by rw [c100]; omega), f3, c100, fl_eq (by omega) (by omega)]
  have f5 : ((F 9 i + F 9 j).toInt64 * 100).toInt = ((F 9 i).toInt + (F 9 j).toInt) * 100 := by rw [i64m (by rw [i3264, e1, c100]; omega) (by rw [i3264, e1, c100]; omega), i3264, e1, c100]
  have f6 : (D * (F 9 i).toInt64 * (F 9 j).toInt64 / ((F 9 i + F 9 j).toInt64 * 100)).toInt = D.toInt * (F 9 i).toInt * (F 9 j).toInt / (((F 9 i).toInt + (F 9 j).toInt) * 100) := by rw [i64d (by rw [f2]; omega) (by rw [f5]; omega), f2, f5]
  have hl : gX10_levelling F G (nI i) (nI j) D = D * (F 9 i).toInt64 * (F 9 j).toInt64 / (F 9 i + F 9 j).toInt64 / 100 := by
    unfold gX10_levelling
    simp only [bvd]
    rw [ba_in _ hn hi, ba_in _ hn hj]
    show (if 0 < (F 9 i + F 9 j).toInt64 then D * (F 9 i).toInt64 * (F 9 j).toInt64 / (F 9 i + F 9 j).toInt64 / 100 else 0) = _
    rw [if_pos (by rw [i64lt, i3264, e1, z0]; omega)]
  have hm : D * (F 9 i).toInt64 * (F 9 j).toInt64 / ((F 9 i + F 9 j).toInt64 * 100) = gX10_levelling F G (nI i) (nI j) D := by rw [hl, i64eq, f6, f4]
  refine ⟨?_, ?_, ?_, ?_⟩
  · unfold gX12_levels
    simp only [bvd]
    rw [hD, if_neg (ge20 (by omega)), if_neg (ge20 (by omega)), if_neg (ge20 (by omega)), nI_clamp (by omega), nI_clamp (by omega), hR.at 9 (by decide), hG.at 14 (by decide), hm]
  · unfold gX10_stockOf
    simp only [bvd]
    rw [ba_in _ hn hi]; rfl
  · rw [hl, f4]; exact Int.ediv_nonneg q3 (by omega)
  · rw [hl, f4]; exact fl_in (by omega) (by omega) hD0 (Int.le_refl _)
/-- what would go from a basin to what is outside -/
theorem lv_io {b : Int} {F FM : jF} {G GM : jG} (h : wE b F G) (hR : ag shF F FM) (hG : ag shG G GM) {i : Nat} {o : Int32} (hi : i < cn F 8) (ho : o = 20 ∨ o = 21) {D : Int64} (hD0 : 0 ≤ D.toInt) (hD1 : D.toInt ≤ 173000000000) (hD : gX12_levelOf FM GM (nI i) - gX12_levelOf FM GM o = D) : gX12_levels FM GM (nI i) o = (if gX10_levelling F G (nI i) o D ≤ G 14 i then gX10_levelling F G (nI i) o D else G 14 i) ∧ gX10_stockOf F G (nI i) = G 14 i ∧ 0 ≤ (gX10_levelling F G (nI i) o D).toInt := by
  have hn := h.1.1.1.2
  obtain ⟨⟨a1, a2⟩, -⟩ := (h.2.1 i).1 hi
  have q1 : 0 ≤ D.toInt * (F 9 i).toInt := Int.mul_nonneg hD0 (by omega)
  have q2 : D.toInt * (F 9 i).toInt ≤ 173000000000 * 100 := Int.le_trans (Int.mul_le_mul_of_nonneg_right hD1 (by omega)) (Int.mul_le_mul_of_nonneg_left a2 (by omega))
  have f1 : (D * (F 9 i).toInt64).toInt = D.toInt * (F 9 i).toInt := by rw [i64m (by rw [i3264]; omega) (by rw [i3264]; omega), i3264]
  have hb : gX10_basinAt F G o = none := by rcases ho with rfl | rfl <;> rfl
  have hl : gX10_levelling F G (nI i) o D = D * (F 9 i).toInt64 / 100 := by
    unfold gX10_levelling
    simp only [bvd]
    rw [ba_in _ hn hi, hb]; rfl
  have h20 : (20 : Int32) ≤ o := by rcases ho with rfl | rfl <;> decide
  refine ⟨?_, ?_, ?_⟩
  · unfold gX12_levels
    simp only [bvd]
    rw [hD, if_neg (ge20 (by omega)), if_pos h20, if_neg (ge20 (by omega)), if_neg (ge20 (by omega)), nI_clamp (by omega), hR.at 9 (by decide), hG.at 14 (by decide), ← hl]
  · unfold gX10_stockOf
    simp only [bvd]
    rw [ba_in _ hn hi]; rfl
  · rw [hl, i64d (by rw [f1]; omega) (by rw [c100]; omega), f1, c100]; exact Int.ediv_nonneg q1 (by omega)
/-- what would come from outside -/
theorem lv_oi {b : Int} {F FM : jF} {G GM : jG} (h : wE b F G) (hR : ag shF F FM) (hG : ag shG G GM) {j : Nat} {o : Int32} (hj : j < cn F 8) (ho : o = 20 ∨ o = 21) {D : Int64} (hD0 : 0 ≤ D.toInt) (hD1 : D.toInt ≤ 173000000000) (hD : gX12_levelOf FM GM o - gX12_levelOf FM GM (nI j) = D) : gX12_levels FM GM o (nI j) = gX10_levelling F G o (nI j) D ∧ gX10_stockOf F G o = 9223372036854775807 ∧ 0 ≤ (gX10_levelling F G o (nI j) D).toInt ∧ 100 * (gX10_levelling F G o (nI j) D).toInt ≤ D.toInt * (F 9 j).toInt := by
  have hn := h.1.1.1.2
  obtain ⟨⟨a1, a2⟩, -⟩ := (h.2.1 j).1 hj
  have q1 : 0 ≤ D.toInt * (F 9 j).toInt := Int.mul_nonneg hD0 (by omega)
  have q2 : D.toInt * (F 9 j).toInt ≤ 173000000000 * 100 := Int.le_trans (Int.mul_le_mul_of_nonneg_right hD1 (by omega)) (Int.mul_le_mul_of_nonneg_left a2 (by omega))
  have f1 : (D * (F 9 j).toInt64).toInt = D.toInt * (F 9 j).toInt := by rw [i64m (by rw [i3264]; omega) (by rw [i3264]; omega), i3264]
  have hb : gX10_basinAt F G o = none := by rcases ho with rfl | rfl <;> rfl
  have hl : gX10_levelling F G o (nI j) D = D * (F 9 j).toInt64 / 100 := by
    unfold gX10_levelling
    simp only [bvd]
    rw [ba_in _ hn hj, hb]; rfl
  have h20 : (20 : Int32) ≤ o := by rcases ho with rfl | rfl <;> decide
  have f2 : (D * (F 9 j).toInt64 / 100).toInt = D.toInt * (F 9 j).toInt / 100 := by rw [i64d (by rw [f1]; omega) (by rw [c100]; omega), f1, c100]
  refine ⟨?_, ?_, ?_, ?_⟩
  · unfold gX12_levels
    simp only [bvd]
    rw [hD, if_pos h20, if_pos h20, if_pos h20, nI_clamp (by omega), hR.at 9 (by decide), ← hl]
  · unfold gX10_stockOf
    simp only [bvd]
    rw [hb]; rfl
  · rw [hl, f2]; exact Int.ediv_nonneg q1 (by omega)
  · rw [hl, f2]; exact fl_out (Int.le_refl _)
theorem min3 (s l m : Int64) : ∃ x : Int64, (if s < (if l < m then l else m) then s else (if l < m then l else m)) = x ∧ (if m ≤ (if l ≤ s then l else s) then m else (if l ≤ s then l else s)) = x ∧ x.toInt ≤ s.toInt ∧ x.toInt ≤ l.toInt ∧ x.toInt ≤ m.toInt ∧ (x = s ∨ x = l ∨ x = m) := by
  refine ⟨_, rfl, ?_⟩
  by_cases c1 : l < m
  · rw [if_pos c1]
    by_cases c2 : s < l
    · rw [if_pos c2, if_neg (show ¬ l ≤ s by rw [i64le]; rw [i64lt] at c2; omega), if_neg (show ¬ m ≤ s by rw [i64le]; rw [i64lt] at c1 c2; omega)]
      rw [i64lt] at c1 c2
      exact ⟨rfl, by omega, by omega, by omega, Or.inl rfl⟩
    · rw [if_neg c2, if_pos (show l ≤ s by rw [i64le]; rw [i64lt] at c2; omega), if_neg (show ¬ m ≤ l by rw [i64le]; rw [i64lt] at c1; omega)]
      rw [i64lt] at c1 c2
      exact ⟨rfl, by omega, by omega, by omega, Or.inr (Or.inl rfl)⟩
  · rw [if_neg c1]
    by_cases c2 : s < m
    · rw [if_pos c2, if_neg (show ¬ l ≤ s by rw [i64le]; rw [i64lt] at c1 c2; omega), if_neg (show ¬ m ≤ s by rw [i64le]; rw [i64lt] at c2; omega)]
      rw [i64lt] at c1 c2
      exact ⟨rfl, by omega, by omega, by omega, Or.inl rfl⟩
    · rw [if_neg c2]
      rw [i64lt] at c1 c2
      by_cases c3 : l ≤ s
      · rw [if_pos c3, if_pos (show m ≤ l by rw [i64le]; omega)]
        exact ⟨rfl, by omega, by omega, by omega, Or.inr (Or.inr rfl)⟩
      · rw [if_neg c3, if_pos (show m ≤ s by rw [i64le]; omega)]
        exact ⟨rfl, by omega, by omega, by omega, Or.inr (Or.inr rfl)⟩
theorem min3o (l m : Int64) : ∃ x : Int64, (if (9223372036854775807 : Int64) < (if l < m then l else m) then (9223372036854775807 : Int64) else (if l < m then l else m)) = x ∧ (if m ≤ l then m else l) = x ∧ x.toInt ≤ l.toInt ∧ x.toInt ≤ m.toInt ∧ (x = l ∨ x = m) := by
  have hx := Int64.toInt_lt
  have hz : (9223372036854775807 : Int64).toInt = 9223372036854775807 := rfl
  refine ⟨_, rfl, ?_⟩
  by_cases c1 : l < m
  · have := hx l
    rw [if_pos c1, if_neg (show ¬ (9223372036854775807 : Int64) < l by rw [i64lt, hz]; omega), if_neg (show ¬ m ≤ l by rw [i64le]; rw [i64lt] at c1; omega)]
    rw [i64lt] at c1
    exact ⟨rfl, by omega, by omega, Or.inl rfl⟩
  · have := hx m
    rw [if_neg c1, if_neg (show ¬ (9223372036854775807 : Int64) < m by rw [i64lt, hz]; omega)]
    rw [i64lt] at c1
    rw [if_pos (show m ≤ l by rw [i64le]; omega)]
    exact ⟨rfl, by omega, by omega, Or.inr rfl⟩
/-- how much goes -/
theorem core_x {b : Int} {F FM : jF} {G GM : jG} (h : wE b F G) (hR : ag shF F FM) (hG : ag shG G GM) {a c : Int32} (hw : wy F a c) {D : Int64} (hD0 : 0 ≤ D.toInt) (hD1 : D.toInt ≤ 173000000000) (hD : gX12_levelOf FM GM a - gX12_levelOf FM GM c = D) (m : Int64) (hm : 0 ≤ m.toInt) : ∃ x : Int64, (if gX10_stockOf F G a < (if gX10_levelling F G a c D < m then gX10_levelling F G a c D else m) then gX10_stockOf F G a else (if gX10_levelling F G a c D < m then gX10_levelling F G a c D else m)) = x ∧ (if m ≤ gX12_levels FM GM a c then m else gX12_levels FM GM a c) = x ∧ 0 ≤ x.toInt ∧ x.toInt ≤ m.toInt ∧ (∀ i, i < cn F 8 → a = nI i → x.toInt ≤ (G 14 i).toInt) ∧ (∀ j, j < cn F 8 → c = nI j → 100 * x.toInt ≤ D.toInt * (F 9 j).toInt) := by
  have hn := h.1.1.1.2
  obtain ⟨ha, hc, hne, hba⟩ := hw
  have inj : ∀ i j : Nat, i < cn F 8 → j < cn F 8 → nI i = nI j → i = j := fun i j hi hj e => (nI_eq (by omega) (by omega)).mp e
  have mono : ∀ (x l : Int64) (k : Int), x.toInt ≤ l.toInt → 100 * l.toInt ≤ k → 100 * x.toInt ≤ k := fun x l k h1 h2 => by omega
  rcases ha with ha | ha | ⟨i, hi, rfl⟩
  · rcases hba with ⟨j, hj, e⟩ | ⟨j, hj, rfl⟩
    · exact absurd (e.symm.trans ha) (nI_n20 (by omega))
    · obtain ⟨e1, e2, e3, e4⟩ := lv_oi h hR hG hj (Or.inl ha) hD0 hD1 hD
      obtain ⟨x, x1, x2, x3, x4, x5⟩ := min3o (gX10_levelling F G a (nI j) D) m
      rw [e1, e2]
      refine ⟨x, x1, x2, ?_, x4, fun i hi e => absurd (e.symm.trans ha) (nI_n20 (by omega)), fun j' hj' e => ?_⟩
      · rcases x5 with rfl | rfl
        · exact e3
        · exact hm
      · rw [← inj _ _ hj hj' e]; exact mono _ _ _ x3 e4
  · rcases hba with ⟨j, hj, e⟩ | ⟨j, hj, rfl⟩
    · exact absurd (e.symm.trans ha) (nI_n21 (by omega))
    · obtain ⟨e1, e2, e3, e4⟩ := lv_oi h hR hG hj (Or.inr ha) hD0 hD1 hD
      obtain ⟨x, x1, x2, x3, x4, x5⟩ := min3o (gX10_levelling F G a (nI j) D) m
      rw [e1, e2]
      refine ⟨x, x1, x2, ?_, x4, fun i hi e => absurd (e.symm.trans ha) (nI_n21 (by omega)), fun j' hj' e => ?_⟩
      · rcases x5 with rfl | rfl
        · exact e3
        · exact hm
      · rw [← inj _ _ hj hj' e]; exact mono _ _ _ x3 e4
  · have hwi := (lev_b h.1 h.2.1 h.2.2.1 hi).1.1
    rcases hc with hc | hc | ⟨j, hj, rfl⟩
    · obtain ⟨e1, e2, e3⟩ := lv_io h hR hG hi (Or.inl hc) hD0 hD1 hD
      obtain ⟨x, x1, x2, x3, x4, x5, x6⟩ := min3 (G 14 i) (gX10_levelling F G (nI i) c D) m
      rw [e1, e2]
      refine ⟨x, x1, x2, ?_, x5, fun i' hi' e => ?_, fun j' hj' e => absurd (e.symm.trans hc) (nI_n20 (by omega))⟩
      · rcases x6 with rfl | rfl | rfl
        · exact hwi
        · exact e3
        · exact hm
      · rw [← inj _ _ hi hi' e]; exact x3
    · obtain ⟨e1, e2, e3⟩ := lv_io h hR hG hi (Or.inr hc) hD0 hD1 hD
      obtain ⟨x, x1, x2, x3, x4, x5, x6⟩ := min3 (G 14 i) (gX10_levelling F G (nI i) c D) m
      rw [e1, e2]
      refine ⟨x, x1, x2, ?_, x5, fun i' hi' e => ?_, fun j' hj' e => absurd (e.symm.trans hc) (nI_n21 (by omega))⟩
      · rcases x6 with rfl | rfl | rfl
        · exact hwi
        · exact e3
        · exact hm
      · rw [← inj _ _ hi hi' e]; exact x3
    · obtain ⟨e1, e2, e3, e4⟩ := lv_ij h hR hG hi hj hD0 hD1 hD
      obtain ⟨x, x1, x2, x3, x4, x5, x6⟩ := min3 (G 14 i) (gX10_levelling F G (nI i) (nI j) D) m
      rw [e1, e2]
      refine ⟨x, x1, x2, ?_, x5, fun i' hi' e => ?_, fun j' hj' e => ?_⟩
      · rcases x6 with rfl | rfl | rfl
        · exact hwi
        · exact e3
        · exact hm
      · rw [← inj _ _ hi hi' e]; exact x3
      · rw [← inj _ _ hj hj' e]; exact mono _ _ _ x4 e4
theorem ag_u2 {α : Type} {ks : List Nat} {G GM : Nat → Nat → α} (h : ag ks G GM) (k i : Nat) {v v' : α} (hv : v' = v) : ag ks (u2 G k i v) (u2 GM k i v') := by
  intro k' hk'
  subst hv
  by_cases e : k' = k
  · subst e; funext j; rw [u2_same, u2_same, h k' hk']
  · rw [u2_other _ e, u2_other _ e, h k' hk']
