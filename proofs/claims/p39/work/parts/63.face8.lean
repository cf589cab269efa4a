-- ends of a way
theorem we_c {F FM : jF} (G GM : jG) (hN : wN F) (hR : ag shF F FM) (p : Int32) : (eo F p ∧ gX11_needEnd F G p = 0 ∧ gX12_isEnd FM GM p = 1) ∨ (gX11_needEnd F G p = 1 ∧ gX12_isEnd FM GM p = 0) := by
  unfold gX11_needEnd gX12_isEnd gX10_isEnd
  simp only [bvd]
  rcases bn_c G GM hN hR p with ⟨j, hj, hj8, e1, e2, e3, e4⟩ | ⟨e2, e3, e4⟩
  · left
    have n20 : ¬ p = 20 := by rw [e1]; exact nI_n20 (by omega)
    have n21 : ¬ p = 21 := by rw [e1]; exact nI_n21 (by omega)
    rw [e4, if_neg n20, if_neg n21, e3, om_s, if_neg (show ¬ (1 : Int32) = 0 by decide), if_neg (show ¬ (1 : Int32) = 0 by decide)]
    exact ⟨Or.inr (Or.inr ⟨j, hj, e1⟩), rfl, rfl⟩
  · rw [e4, if_pos (show (0 : Int32) = 0 from rfl), e3, om_n]
    by_cases c1 : p = 20
    · rw [if_pos c1, if_neg (show ¬ (1 : Int32) = 0 by decide)]
      exact Or.inl ⟨Or.inl c1, rfl, rfl⟩
    · rw [if_neg c1]
      by_cases c2 : p = 21
      · rw [if_pos c2, if_neg (show ¬ (1 : Int32) = 0 by decide)]
        exact Or.inl ⟨Or.inr (Or.inl c2), rfl, rfl⟩
      · rw [if_neg c2, if_pos (show (0 : Int32) = 0 from rfl)]
        exact Or.inr ⟨rfl, rfl⟩
theorem way_c {F FM : jF} (G GM : jG) (hN : wN F) (hR : ag shF F FM) (p q : Int32) : (wy F p q ∧ gX11_needWay F G p q = 0 ∧ gX12_areEnds FM GM p q = (1, (u2 FM 60 0 0, GM))) ∨ (gX11_needWay F G p q = 1 ∧ gX12_areEnds FM GM p q = (0, (u2 FM 60 0 1, GM))) ∨ (gX11_needWay F G p q = 2 ∧ gX12_areEnds FM GM p q = (0, (u2 FM 60 0 2, GM))) := by
  have d1 : ¬ (1 : Int32) = 0 := by decide
  have d2 : ¬ (2 : Int32) = 0 := by decide
  have k1 : ¬ (1 : Nat) = 0 := by decide
  have k2 : ¬ (2 : Nat) = 0 := by decide
  unfold gX11_needWay gX12_areEnds
  simp only [bvd]
  rcases we_c G GM hN hR p with ⟨a1, a2, a3⟩ | ⟨a2, a3⟩
  · rcases we_c G GM hN hR q with ⟨b1, b2, b3⟩ | ⟨b2, b3⟩
    · rw [a2, a3, b2, b3]
      rcases df_c p q with ⟨c1, c2⟩ | ⟨c1, c2⟩
      · rw [c1]
        simp only [if_neg d1, if_neg c2, if_pos rfl, u2_at]
        rcases bn_c G GM hN hR p with ⟨j, hj, hj8, e1, e2, e3, e4⟩ | ⟨e2, e3, e4⟩
        · rw [e3, e4, om_s]
          simp only [if_neg d1, if_pos rfl, u2_at]
          exact Or.inl ⟨⟨a1, b1, c2, Or.inl ⟨j, hj, e1⟩⟩, by trivial, by trivial⟩
        · rw [e3, e4, om_n]
          rcases bn_c G GM hN hR q with ⟨j, hj, hj8, f1, f2, f3, f4⟩ | ⟨f2, f3, f4⟩
          · rw [f3, f4, om_s]
            simp only [if_neg d1, if_pos rfl, u2_at]
            exact Or.inl ⟨⟨a1, b1, c2, Or.inr ⟨j, hj, f1⟩⟩, by trivial, by trivial⟩
          · rw [f3, f4, om_n]
            simp only [if_neg d2, if_pos rfl, u2_at]
            exact Or.inr (Or.inr ⟨by trivial, by trivial⟩)
      · rw [c1]
        simp only [if_neg d1, if_neg d2, if_neg k2, if_pos c2, if_pos rfl, u2_at]
        exact Or.inr (Or.inr ⟨by trivial, by trivial⟩)
    · rw [a2, a3, b2, b3]
      simp only [if_neg d1, if_neg k1, if_pos rfl, u2_at]
      exact Or.inr (Or.inl ⟨by trivial, by trivial⟩)
  · rw [a2, a3]
    simp only [if_neg d1, if_neg k1, if_pos rfl, u2_at]
    exact Or.inr (Or.inl ⟨by trivial, by trivial⟩)
theorem nw_ok {F : jF} {G : jG} (p q : Int32) : okX11_needWay F G p q := by
  have ne : ∀ p, okX11_needEnd F G p := fun p => ⟨fun _ => trivial, fun _ => ⟨fun _ => trivial, fun _ => ba_ok p⟩⟩
  unfold okX11_needWay
  refine ⟨ne p, ?_⟩
  rw [bvd]; intro _
  refine ⟨ne q, ?_⟩
  rw [bvd]; intro _
  rw [bvd]; intro _
  refine ⟨ba_ok p, ?_⟩
  rw [bvd]
  cases gX10_basinAt F G p with
  | none => rw [om_n]; exact ba_ok q
  | some k => rw [om_s]; trivial
theorem are_ok (FM : jF) (GM : jG) (p q : Int32) : okX12_areEnds FM GM p q := by
  unfold okX12_areEnds
  refine ⟨ib_ok _ _ _, ?_⟩
  rw [bvd]
  refine ⟨fun _ => trivial, fun _ => ⟨ib_ok _ _ _, ?_⟩⟩
  rw [bvd]
  refine ⟨fun _ => trivial, fun _ => ⟨fun _ => trivial, fun _ => ⟨ib_ok _ _ _, ?_⟩⟩⟩
  rw [bvd]
  exact ⟨fun _ => ib_ok _ _ _, fun _ => trivial⟩
