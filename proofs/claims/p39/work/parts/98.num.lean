-- the law's small numbers
theorem i32d {x y : Int32} (h1 : 0 ≤ x.toInt) (h2 : 0 < y.toInt) : (x / y).toInt = x.toInt / y.toInt := by
  rw [Int32.toInt_div_of_ne_right _ _ (by intro h; rw [h] at h2; exact absurd h2 (by decide)), Int.tdiv_eq_ediv_of_nonneg h1]
theorem md32 {x A : Int32} (h0 : 0 ≤ x.toInt) (hA : 0 < A.toInt) : (x - x / A * A).toInt = x.toInt % A.toInt := by
  have e1 := i32d h0 hA
  have hx := Int32.toInt_lt x
  have q0 : 0 ≤ x.toInt / A.toInt := Int.ediv_nonneg h0 (by omega)
  have q1 : x.toInt / A.toInt * A.toInt ≤ x.toInt := Int.ediv_mul_le _ (by omega)
  have q2 : 0 ≤ x.toInt / A.toInt * A.toInt := Int.mul_nonneg q0 (by omega)
  have e2 : (x / A * A).toInt = x.toInt / A.toInt * A.toInt := by rw [i32m (by rw [e1]; omega) (by rw [e1]; omega), e1]
  rw [i32s (by rw [e2]; omega) (by rw [e2]; omega), e2, Int.emod_def, Int.mul_comm A.toInt]
theorem and_pos (v : Int32) : 0 ≤ (v &&& 2147483647).toInt := by
  have h : (v &&& 2147483647).toBitVec.msb = false := by
    rw [Int32.toBitVec_and, BitVec.msb_and]
    have : (2147483647 : Int32).toBitVec.msb = false := by decide
    rw [this, Bool.and_false]
  rw [← Int32.toInt_toBitVec, BitVec.toInt_eq_msb_cond, h]
  simp
theorem low_b (v : Int32) {n : Int32} (h : 0 < n.toInt) : 0 ≤ (lowv v n).toInt ∧ (lowv v n).toInt < n.toInt := by
  unfold lowv
  rw [md32 (and_pos v) h]
  exact ⟨Int.emod_nonneg _ (by omega), Int.emod_lt_of_pos _ h⟩
theorem low_n (v : Int32) {n : Nat} (h : 0 < n) (h2 : n < 10000) : ∃ j, j < n ∧ lowv v (nI n) = nI j := by
  have hn : (nI n).toInt = (n : Int) := nI_toInt (by omega)
  have hb := low_b v (n := nI n) (by omega)
  rw [hn] at hb
  obtain ⟨j, hj, e⟩ := nr_n (p := lowv v (nI n)) (l := n - 1) (by omega) hb.1 (by omega)
  exact ⟨j, by omega, e⟩
theorem nI_nz {c : Nat} (h : 0 < c) (h2 : c < 10000) : ¬ nI c = 0 := fun e => by
  rw [i32eq, nI_toInt (by omega), show (0 : Int32).toInt = 0 from rfl] at e
  omega
theorem rng1 {a n M : Int32} (h : 0 ≤ a.toInt ∧ a.toInt < n.toInt) (hM : n.toInt ≤ M.toInt) : (1 : Int32).toInt ≤ (1 + a).toInt ∧ (1 + a).toInt ≤ M.toInt := by
  have y1 : (1 : Int32).toInt = 1 := rfl
  have hl := Int32.toInt_lt M
  have e : (1 + a).toInt = 1 + a.toInt := by rw [i32a (by omega) (by omega), y1]
  rw [e, y1]
  omega
theorem rng0 {a n M : Int32} (h : 0 ≤ a.toInt ∧ a.toInt < n.toInt) (hM : n.toInt - 1 ≤ M.toInt) : (0 : Int32).toInt ≤ a.toInt ∧ a.toInt ≤ M.toInt := by
  have y0 : (0 : Int32).toInt = 0 := rfl
  omega
theorem rngs {a n d lo hi : Int32} (h : 0 ≤ a.toInt ∧ a.toInt < n.toInt) (h0 : 0 ≤ d.toInt) (h1 : lo.toInt ≤ 0 - d.toInt) (h2 : n.toInt - 1 - d.toInt ≤ hi.toInt) : lo.toInt ≤ (a - d).toInt ∧ (a - d).toInt ≤ hi.toInt := by
  have hl := Int32.toInt_lt n
  have hd := Int32.toInt_lt d
  have e : (a - d).toInt = a.toInt - d.toInt := i32s (by omega) (by omega)
  rw [e]
  omega
theorem rem_n (a n : Nat) (hn : 0 < n) (ha : a < 10000) (hn2 : n < 10000) : (nI a - nI a / nI n * nI n : Int32) = nI (a % n) := by
  have h1 : (nI a).toInt = (a : Int) := nI_toInt (by omega)
  have h2 : (nI n).toInt = (n : Int) := nI_toInt (by omega)
  have h3 := Nat.mod_lt a hn
  rw [i32eq, md32 (by omega) (by omega), h1, h2, nI_toInt (by omega)]
  omega
theorem end_eo {F : jF} {nb : Nat} (h : cn F 8 = nb) (hb : nb ≤ 8) (v : Int32) : eo F (endv v (nI nb)) := by
  unfold endv
  have e2 : (nI nb + 2 : Int32) = nI (nb + 2) := nI_add nb 2
  rw [e2]
  obtain ⟨j, hj, ej⟩ := low_n v (n := nb + 2) (by omega) (by omega)
  rw [ej]
  by_cases c : nb ≤ j
  · rw [if_pos (by rw [i32le, nI_toInt (by omega), nI_toInt (by omega)]; omega)]
    rcases (show j = nb ∨ j = nb + 1 by omega) with rfl | rfl
    · left
      exact Int32.add_sub_cancel _ _
    · right; left
      rw [← nI_add nb 1]
      have : (20 + (nI nb + nI 1) - nI nb : Int32) = 20 + nI 1 := by
        rw [Int32.add_comm (nI nb), ← Int32.add_assoc, Int32.add_sub_cancel]
      rw [this]
      rfl
  · rw [if_neg (by rw [i32le, nI_toInt (by omega), nI_toInt (by omega)]; omega)]
    exact Or.inr (Or.inr ⟨j, by omega, rfl⟩)
theorem le_8 {a : Nat} (ha : a < 10000) (h : ¬ (8 : Int32) ≤ nI a) : a < 8 := by
  rw [i32le, nI_toInt (by omega), show (8 : Int32).toInt = 8 from rfl] at h
  omega
theorem gt_0 {a : Nat} (ha : a < 10000) (h : ¬ nI a ≤ 0) : 0 < a := by
  rw [i32le, nI_toInt (by omega), show (0 : Int32).toInt = 0 from rfl] at h
  omega
