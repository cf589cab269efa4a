-- water moves
def mv1 (G : jG) (i j : Nat) (x : Int64) : jG := u2 (u2 G 14 i (G 14 i - x)) 14 j (u2 G 14 i (G 14 i - x) 14 j + x)
def mv2 (G : jG) (i : Nat) (x : Int64) : jG := u2 (u2 G 14 i (G 14 i - x)) 56 3 (u2 G 14 i (G 14 i - x) 56 3 + x)
def mv3 (G : jG) (j : Nat) (x : Int64) : jG := u2 (u2 G 56 2 (G 56 2 + x)) 14 j (u2 G 56 2 (G 56 2 + x) 14 j + x)
theorem ct_2 (F : jF) (G : jG) (x : Int64) : gX10_count F G 2 x = (F, u2 G 56 2 (G 56 2 + x)) := by
  unfold gX10_count
  rw [if_neg (show ¬ (2 : Int32) < 0 by decide), if_neg (show ¬ (4 : Int32) ≤ 2 by decide)]
  simp only [bvd]
  rfl
theorem ct_3 (F : jF) (G : jG) (x : Int64) : gX10_count F G 3 x = (F, u2 G 56 3 (G 56 3 + x)) := by
  unfold gX10_count
  rw [if_neg (show ¬ (3 : Int32) < 0 by decide), if_neg (show ¬ (4 : Int32) ≤ 3 by decide)]
  simp only [bvd]
  rfl
theorem ct_ok {F : jF} {G : jG} {p : Int32} {x : Int64} : okX10_count F G p x := by
  unfold okX10_count
  refine ⟨fun _ => trivial, fun h => ⟨fun _ => trivial, fun h4 => ?_⟩⟩
  obtain ⟨j, hj, rfl⟩ := nI_of h
  rw [show (4 : Int32) = nI 4 from rfl, nI_leI (by omega) hj] at h4
  exact ⟨nI_vin (by omega) (by omega), nI_vin (by omega) (by omega)⟩
theorem mo_1 {F : jF} (G : jG) {i j : Nat} (hn : cn F 8 ≤ 8) (hi : i < cn F 8) (hj : j < cn F 8) (x : Int64) : gX10_move F G (nI i) (nI j) x = (F, mv1 G i j x) := by
  unfold gX10_move
  rw [ba_in _ hn hi, ba_in _ hn hj]
  simp only [bvd, om_s, bsd]
  rfl
theorem mo_2 {F : jF} (G : jG) {i : Nat} {o : Int32} (hn : cn F 8 ≤ 8) (hi : i < cn F 8) (ho : gX10_basinAt F G o = none) (x : Int64) : gX10_move F G (nI i) o x = (F, mv2 G i x) := by
  unfold gX10_move
  rw [ba_in _ hn hi, ho]
  simp only [bvd, om_s, om_n, bsd, ct_3]
  rfl
theorem mo_3 {F : jF} (G : jG) {j : Nat} {o : Int32} (hn : cn F 8 ≤ 8) (hj : j < cn F 8) (ho : gX10_basinAt F G o = none) (x : Int64) : gX10_move F G o (nI j) x = (F, mv3 G j x) := by
  unfold gX10_move
  rw [ba_in _ hn hj, ho]
  simp only [bvd, om_s, om_n, bsd, ct_2]
  rfl
theorem gs_1 (F : jF) (G : jG) {i j : Nat} (hi : i < 8) (hj : j < 8) (x : Int64) : gX12_goes F G (nI i) (nI j) x = (F, mv1 G i j x) := by
  unfold gX12_goes
  rw [if_neg (ge20 (by omega)), nI_clamp (by omega), nI_clamp (by omega)]
  simp only [bvd]
  rw [if_neg (ge20 (by omega))]
  rfl
theorem gs_2 (F : jF) (G : jG) {i : Nat} {o : Int32} (hi : i < 8) (ho : (20 : Int32) ≤ o) (x : Int64) : gX12_goes F G (nI i) o x = (F, mv2 G i x) := by
  unfold gX12_goes
  rw [if_neg (ge20 (by omega)), nI_clamp (by omega)]
  simp only [bvd]
  rw [if_pos ho]
  rfl
theorem gs_3 (F : jF) (G : jG) {j : Nat} {o : Int32} (hj : j < 8) (ho : (20 : Int32) ≤ o) (x : Int64) : gX12_goes F G o (nI j) x = (F, mv3 G j x) := by
  unfold gX12_goes
  rw [if_pos ho, nI_clamp (by omega)]
  simp only [bvd]
  rw [if_neg (ge20 (by omega))]
  rfl
theorem sub0 (x : Int64) : x - 0 = x := Int64.sub_zero x
theorem add0 (x : Int64) : x + 0 = x := Int64.add_zero x
theorem mv1_0 (G : jG) (i j : Nat) : mv1 G i j 0 = G := by unfold mv1; rw [sub0, u2_id, add0, u2_id]
theorem mv2_0 (G : jG) (i : Nat) : mv2 G i 0 = G := by unfold mv2; rw [sub0, u2_id, add0, u2_id]
theorem mv3_0 (G : jG) (j : Nat) : mv3 G j 0 = G := by unfold mv3; rw [add0, u2_id, add0, u2_id]
theorem mv1_ag {G GM : jG} (h : ag shG G GM) (i j : Nat) (x : Int64) : ag shG (mv1 G i j x) (mv1 GM i j x) := by
  have e := h.at 14 (by decide)
  have h1 := ag_u2 h 14 i (v := G 14 i - x) (v' := GM 14 i - x) (by rw [e])
  exact ag_u2 h1 14 j (by rw [h1.at 14 (by decide)])
theorem mv2_ag {G GM : jG} (h : ag shG G GM) (i : Nat) (x : Int64) : ag shG (mv2 G i x) (mv2 GM i x) := by
  have e := h.at 14 (by decide)
  have h1 := ag_u2 h 14 i (v := G 14 i - x) (v' := GM 14 i - x) (by rw [e])
  exact ag_u2 h1 56 3 (by rw [h1.at 56 (by decide)])
theorem mv3_ag {G GM : jG} (h : ag shG G GM) (j : Nat) (x : Int64) : ag shG (mv3 G j x) (mv3 GM j x) := by
  have e := h.at 56 (by decide)
  have h1 := ag_u2 h 56 2 (v := G 56 2 + x) (v' := GM 56 2 + x) (by rw [e])
  exact ag_u2 h1 14 j (by rw [h1.at 14 (by decide)])
theorem mv1_k (G : jG) (i j : Nat) (x : Int64) {k : Nat} (h : k ≠ 14) : mv1 G i j x k = G k := by unfold mv1; rw [u2_other _ h, u2_other _ h]
theorem mv2_k (G : jG) (i : Nat) (x : Int64) {k : Nat} (h : k ≠ 14) (h2 : k ≠ 56) : mv2 G i x k = G k := by unfold mv2; rw [u2_other _ h2, u2_other _ h]
theorem mv3_k (G : jG) (j : Nat) (x : Int64) {k : Nat} (h : k ≠ 14) (h2 : k ≠ 56) : mv3 G j x k = G k := by unfold mv3; rw [u2_other _ h, u2_other _ h2]
theorem mv1_14 (G : jG) {i j : Nat} (hij : i ≠ j) (x : Int64) (k : Nat) : mv1 G i j x 14 k = if k = j then G 14 j + x else if k = i then G 14 i - x else G 14 k := by
  unfold mv1
  by_cases e1 : k = j
  · rw [u2_same, if_pos e1, if_pos e1, u2_same, if_neg (fun h => hij h.symm)]
  · rw [u2_same, if_neg e1, if_neg e1, u2_same]
theorem mv2_14 (G : jG) (i : Nat) (x : Int64) (k : Nat) : mv2 G i x 14 k = if k = i then G 14 i - x else G 14 k := by
  unfold mv2
  rw [u2_other _ (by decide : (14 : Nat) ≠ 56), u2_same]
theorem mv3_14 (G : jG) (j : Nat) (x : Int64) (k : Nat) : mv3 G j x 14 k = if k = j then G 14 j + x else G 14 k := by
  unfold mv3
  rw [u2_same, u2_other _ (by decide : (14 : Nat) ≠ 56)]
/-- what a move does -/
theorem move_m {b : Int} {F FM : jF} {G GM : jG} (h : wE b F G) (hG : ag shG G GM) {a c : Int32} (hw : wy F a c) {x : Int64} (hx0 : 0 ≤ x.toInt) (hx1 : x.toInt ≤ 1000000000000000) (hst : ∀ i, i < cn F 8 → a = nI i → x.toInt ≤ (G 14 i).toInt) {d : Int} (hd : ∀ j, j < cn F 8 → c = nI j → 100 * x.toInt ≤ d * (F 9 j).toInt) : ∃ G1 GM1, gX10_move F G a c x = (F, G1) ∧ gX12_goes FM GM a c x = (FM, GM1) ∧ ag shG G1 GM1 ∧ (∀ k, k ≠ 14 → k ≠ 56 → G1 k = G k ∧ GM1 k = GM k) ∧ (∀ i, cn F 8 ≤ i → G1 14 i = G 14 i) ∧ (∀ i, i < cn F 8 → 0 ≤ (G1 14 i).toInt ∧ (lev F G1 i ≤ lev F G i ∨ (c = nI i ∧ lev F G1 i ≤ lev F G i + d))) ∧ okX12_goes FM GM a c x ∧ (x = 0 → GM1 = GM ∧ G1 = G) := by
  have hn := h.1.1.1.2
  obtain ⟨ha, hc, hne, hba⟩ := hw
  have hwat := fun i (hi : i < cn F 8) => (lev_b h.1 h.2.1 h.2.2.1 hi).1
  have har := fun i (hi : i < cn F 8) => ((h.2.1 i).1 hi).1
  have up : ∀ j, j < cn F 8 → c = nI j → (G 14 j + x).toInt = (G 14 j).toInt + x.toInt := fun j hj _ => i64a (by have := hwat j hj; omega) (by have := hwat j hj; omega)
  have dn : ∀ i, i < cn F 8 → a = nI i → (G 14 i - x).toInt = (G 14 i).toInt - x.toInt := fun i hi e => i64s (by have := hwat i hi; have := hst i hi e; omega) (by have := hwat i hi; omega)
  have vin : ∀ j, j < cn F 8 → vp_in (nI j) 8 := fun j hj => nI_vin (by omega) (by omega)
  have lvu : ∀ (G1 : jG) j, j < cn F 8 → c = nI j → G1 14 j = G 14 j + x → 0 ≤ (G1 14 j).toInt ∧ lev F G1 j ≤ lev F G j + d := fun G1 j hj e e1 => by
    have h1 := lv_up (w := (G 14 j).toInt) (x := x.toInt) (a := (F 9 j).toInt) (d := d) (by have := har j hj; omega) (hd j hj e)
    rw [e1]
    unfold lev
    rw [e1, up j hj e]
    have := hwat j hj
    exact ⟨by omega, by omega⟩
  have lvd : ∀ (G1 : jG) i, i < cn F 8 → a = nI i → G1 14 i = G 14 i - x → 0 ≤ (G1 14 i).toInt ∧ lev F G1 i ≤ lev F G i := fun G1 i hi e e1 => by
    have h1 := lv_dn (w := (G 14 i).toInt) (x := x.toInt) (a := (F 9 i).toInt) (by have := har i hi; omega) hx0
    rw [e1]
    unfold lev
    rw [e1, dn i hi e]
    have := hst i hi e
    exact ⟨by omega, by omega⟩
  have lvs : ∀ (G1 : jG) k, k < cn F 8 → G1 14 k = G 14 k → 0 ≤ (G1 14 k).toInt ∧ lev F G1 k ≤ lev F G k := fun G1 k hk e => by
    unfold lev
    rw [e]
    exact ⟨(hwat k hk).1, Int.le_refl _⟩
  have h20 : ∀ o : Int32, o = 20 ∨ o = 21 → (20 : Int32) ≤ o ∧ gX10_basinAt F G o = none := fun o ho => by rcases ho with rfl | rfl <;> exact ⟨by decide, rfl⟩
  have outi : ∀ (o : Int32) (i : Nat), o = 20 ∨ o = 21 → i < cn F 8 → o = nI i → False := fun o i ho hi e => by
    rcases ho with e2 | e2
    · exact nI_n20 (by omega) (e.symm.trans e2)
    · exact nI_n21 (by omega) (e.symm.trans e2)
  have cse : (∃ i j, i < cn F 8 ∧ j < cn F 8 ∧ a = nI i ∧ c = nI j) ∨ (∃ i, i < cn F 8 ∧ a = nI i ∧ (c = 20 ∨ c = 21)) ∨ (∃ j, j < cn F 8 ∧ c = nI j ∧ (a = 20 ∨ a = 21)) := by
    rcases hba with ⟨i, hi, e⟩ | ⟨j, hj, e⟩
    · rcases hc with hc | hc | ⟨j, hj, e2⟩
      · exact Or.inr (Or.inl ⟨i, hi, e, Or.inl hc⟩)
      · exact Or.inr (Or.inl ⟨i, hi, e, Or.inr hc⟩)
      · exact Or.inl ⟨i, j, hi, hj, e, e2⟩
    · rcases ha with ha | ha | ⟨i, hi, e2⟩
      · exact Or.inr (Or.inr ⟨j, hj, e, Or.inl ha⟩)
      · exact Or.inr (Or.inr ⟨j, hj, e, Or.inr ha⟩)
      · exact Or.inl ⟨i, j, hi, hj, e2, e⟩
  rcases cse with ⟨i, j, hi, hj, rfl, rfl⟩ | ⟨i, hi, rfl, ho⟩ | ⟨j, hj, rfl, ho⟩
  · have hij : i ≠ j := fun e => hne (by rw [e])
    refine ⟨mv1 G i j x, mv1 GM i j x, mo_1 G hn hi hj x, gs_1 FM GM (by omega) (by omega) x, mv1_ag hG i j x, fun k h1 _ => ⟨mv1_k G i j x h1, mv1_k GM i j x h1⟩, fun k hk => by rw [mv1_14 G hij, if_neg (by omega), if_neg (by omega)], fun k hk => ?_, ?_, fun e => by rw [e]; exact ⟨mv1_0 GM i j, mv1_0 G i j⟩⟩
    · by_cases e1 : k = j
      · subst e1
        have := lvu (mv1 G i k x) k hj rfl (by rw [mv1_14 G hij, if_pos rfl])
        exact ⟨this.1, Or.inr ⟨rfl, this.2⟩⟩
      · by_cases e2 : k = i
        · subst e2
          have := lvd (mv1 G k j x) k hi rfl (by rw [mv1_14 G hij, if_neg e1, if_pos rfl])
          exact ⟨this.1, Or.inl this.2⟩
        · have := lvs (mv1 G i j x) k hk (by rw [mv1_14 G hij, if_neg e1, if_neg e2])
          exact ⟨this.1, Or.inl this.2⟩
    · unfold okX12_goes
      refine ⟨fun h => absurd h (ge20 (by omega)), fun _ => ⟨vin i hi, vin i hi, ?_⟩⟩
      rw [bvd]
      exact ⟨fun h => absurd h (ge20 (by omega)), fun _ => ⟨vin j hj, vin j hj⟩⟩
  · obtain ⟨o20, ob⟩ := h20 c ho
    refine ⟨mv2 G i x, mv2 GM i x, mo_2 G hn hi ob x, gs_2 FM GM (by omega) o20 x, mv2_ag hG i x, fun k h1 h2 => ⟨mv2_k G i x h1 h2, mv2_k GM i x h1 h2⟩, fun k hk => by rw [mv2_14, if_neg (by omega)], fun k hk => ?_, ?_, fun e => by rw [e]; exact ⟨mv2_0 GM i, mv2_0 G i⟩⟩
    · by_cases e2 : k = i
      · subst e2
        have := lvd (mv2 G k x) k hi rfl (by rw [mv2_14, if_pos rfl])
        exact ⟨this.1, Or.inl this.2⟩
      · have := lvs (mv2 G i x) k hk (by rw [mv2_14, if_neg e2])
        exact ⟨this.1, Or.inl this.2⟩
    · unfold okX12_goes
      refine ⟨fun h => absurd h (ge20 (by omega)), fun _ => ⟨vin i hi, vin i hi, ?_⟩⟩
      rw [bvd]
      exact ⟨fun _ => trivial, fun h => absurd o20 h⟩
  · obtain ⟨o20, ob⟩ := h20 a ho
    refine ⟨mv3 G j x, mv3 GM j x, mo_3 G hn hj ob x, gs_3 FM GM (by omega) o20 x, mv3_ag hG j x, fun k h1 h2 => ⟨mv3_k G j x h1 h2, mv3_k GM j x h1 h2⟩, fun k hk => by rw [mv3_14, if_neg (by omega)], fun k hk => ?_, ?_, fun e => by rw [e]; exact ⟨mv3_0 GM j, mv3_0 G j⟩⟩
    · by_cases e2 : k = j
      · subst e2
        have := lvu (mv3 G k x) k hj rfl (by rw [mv3_14, if_pos rfl])
        exact ⟨this.1, Or.inr ⟨rfl, this.2⟩⟩
      · have := lvs (mv3 G j x) k hk (by rw [mv3_14, if_neg e2])
        exact ⟨this.1, Or.inl this.2⟩
    · unfold okX12_goes
      refine ⟨fun _ => ?_, fun h => absurd o20 h⟩
      rw [bvd]
      exact ⟨fun h => absurd h (ge20 (by omega)), fun _ => ⟨vin j hj, vin j hj⟩⟩
