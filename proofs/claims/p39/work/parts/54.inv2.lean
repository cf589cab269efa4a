-- what holds between calls
def rp (N : Nat → Int32) : Nat → jS
  | 0 => (iF, iG)
  | j + 1 => (gX5_act (rp N j).1 (rp N j).2 N (nI (6 * j))).2
theorem rp_N {N N1 : Nat → Int32} {q : Nat} (hq : q ≤ 512) (h : ∀ j, j < 6 * q → N1 j = N j) : ∀ j, j ≤ q → rp N1 j = rp N j := by
  intro j
  induction j with
  | zero => intro _; rfl
  | succ j ih =>
    intro hj
    have e := ih (by omega)
    show (gX5_act (rp N1 j).1 (rp N1 j).2 N1 (nI (6 * j))).2 = (gX5_act (rp N j).1 (rp N j).2 N (nI (6 * j))).2
    rw [e, (act_V (N := N1) _ _ (show j < 513 by omega)).1, (act_V (N := N) _ _ (show j < 513 by omega)).1, h _ (by omega), h _ (by omega), h _ (by omega), h _ (by omega), h _ (by omega), h _ (by omega)]
def okN (N : Nat → Int32) (j : Nat) : Prop := okV (rp N j).1 (rp N j).2 (N (6 * j)) (N (6 * j + 1)) (N (6 * j + 2)) (N (6 * j + 3)) (N (6 * j + 4)) (N (6 * j + 5))
def Iv (n : Nat) (F : jF) (G : jG) (F2 : jF) (G2 : jG) (M FM : jF) (GM : jG) : Prop := ∃ q r : Nat, (r ≤ q ∧ q ≤ n ∧ n ≤ 512) ∧ (M 80 0 = nI q ∧ M 81 0 = nI r) ∧ ((F, G) = rp (M 82) q ∧ (F2, G2) = rp (M 82) r) ∧ (∀ j, j < q → okN (M 82) j) ∧ RR (1000000 * (n : Int) + 119988 * (cn F 0 : Int)) n F G FM GM
/-- a call noted and done -/
theorem Iv_act {n : Nat} {F F1 F2 : jF} {G G1 G2 : jG} {M FM FM1 : jF} {GM GM1 : jG} (h : Iv n F G F2 G2 M FM GM) (hn : n < 512) (k a b c d e : Int32) (hok : okV F G k a b c d e) (h1 : (acV F G k a b c d e).2 = (F1, G1)) (hr : RR (1000000 * ((n + 1 : Nat) : Int) + 119988 * (cn F1 0 : Int)) (n + 1) F1 G1 FM1 GM1) : ∃ M1, (∀ G0 : jG, gX11_note M G0 k a b c d e = (nI (6 * (M 80 0).toNatClampNeg), (M1, G0)) ∧ okX11_note M G0 k a b c d e) ∧ gX5_act F G (M1 82) (nI (6 * (M 80 0).toNatClampNeg)) = acV F G k a b c d e ∧ okX5_act F G (M1 82) (nI (6 * (M 80 0).toNatClampNeg)) ∧ Iv (n + 1) F1 G1 F2 G2 M1 FM1 GM1 := by
  obtain ⟨q, r, ⟨hr1, hq1, hn1⟩, ⟨m80, m81⟩, ⟨f1, f2⟩, ho, -⟩ := h
  have ec : (M 80 0).toNatClampNeg = q := by rw [m80, nI_clamp (by omega)]
  rw [ec]
  obtain ⟨e0, e1, e2, e3, e4, e5, e6⟩ := nt_82 M q k a b c d e
  obtain ⟨o1, o2⟩ := nt_o M q k a b c d e
  have hrp := rp_N (N := M 82) (N1 := ntM M q k a b c d e 82) (q := q) (by omega) e0
  have hv := act_V (N := ntM M q k a b c d e 82) F G (q := q) (by omega)
  rw [e1, e2, e3, e4, e5, e6] at hv
  refine ⟨ntM M q k a b c d e, fun G0 => nt_e m80 (by omega) k a b c d e G0, hv.1, hv.2 hok, q + 1, r, ⟨by omega, by omega, by omega⟩, ⟨o1, by rw [o2]; exact m81⟩, ⟨?_, by rw [hrp r hr1]; exact f2⟩, fun j hj => ?_, hr⟩
  · show (F1, G1) = (gX5_act (rp (ntM M q k a b c d e 82) q).1 (rp (ntM M q k a b c d e 82) q).2 (ntM M q k a b c d e 82) (nI (6 * q))).2
    rw [hrp q (Nat.le_refl _), ← f1, hv.1, h1]
  · unfold okN
    by_cases ej : j = q
    · subst ej
      rw [hrp j (Nat.le_refl _), ← f1, e1, e2, e3, e4, e5, e6]
      exact hok
    · have := ho j (by omega)
      unfold okN at this
      rw [hrp j (by omega), e0 _ (by omega), e0 _ (by omega), e0 _ (by omega), e0 _ (by omega), e0 _ (by omega), e0 _ (by omega)]
      exact this
/-- a call more, and nothing done -/
theorem RR_next {b : Int} {c : Nat} {F FM : jF} {G GM : jG} (h : RR b c F G FM GM) (hb : b + 1000000 ≤ 1720000000) (v : Int32) : RR (b + 1000000) (c + 1) F G (u2 FM 60 0 v) GM := by
  have h1 := RR_mono (d := 1000000) h hb (by omega)
  obtain ⟨⟨hE, ⟨g1, g2, g3⟩, ⟨g4, g5, g6⟩, g7, g8⟩, ⟨h3, h4⟩, h5⟩ := h1
  refine ⟨⟨hE, ⟨g1, fun i => ?_, g3⟩, ⟨g4, fun i hi => ?_, g6⟩, ?_, g8⟩, ⟨ag_tr h3 (ag_off FM (by decide) 0 v), h4⟩, rX_c (ag_rf _ F) (ag_off FM (by decide) 0 v) rfl rfl h5⟩
  · obtain ⟨w1, w2, w3, w4⟩ := g2 i
    exact ⟨w1, w2, ⟨w3.1, by have := w3.2; omega⟩, w4⟩
  · obtain ⟨w1, w2, w3⟩ := g5 i hi
    exact ⟨w1, ⟨w2.1, by have := w2.2; omega⟩, w3⟩
  · obtain ⟨w1, w2⟩ := g7
    exact ⟨⟨w1.1, by have := w1.2; omega⟩, w2⟩
theorem Iv_b {n : Nat} {F F2 : jF} {G G2 : jG} {M FM : jF} {GM : jG} (h : Iv n F G F2 G2 M FM GM) : RR (1000000 * (n : Int) + 119988 * (cn F 0 : Int)) n F G FM GM ∧ cn F 0 ≤ 9999 := by
  obtain ⟨q, r, -, -, -, -, hr⟩ := h
  exact ⟨hr, hr.1.1.1.2.2.2.2.2⟩
theorem Iv_same {n : Nat} {F F2 : jF} {G G2 : jG} {M FM : jF} {GM : jG} (h : Iv n F G F2 G2 M FM GM) (hn : n < 512) (v : Int32) : Iv (n + 1) F G F2 G2 M (u2 FM 60 0 v) GM := by
  have hb := Iv_b h
  obtain ⟨q, r, ⟨hr1, hq1, hn1⟩, h2, h3, h4, hr⟩ := h
  refine ⟨q, r, ⟨hr1, by omega, by omega⟩, h2, h3, h4, ?_⟩
  have := RR_next hr (by omega) v
  rwa [show 1000000 * (n : Int) + 119988 * (cn F 0 : Int) + 1000000 = 1000000 * ((n + 1 : Nat) : Int) + 119988 * (cn F 0 : Int) by omega] at this
-- checks
theorem nr_c (p a b : Int32) : (gX11_needRange p a b = 0 ∧ gX12_in p a b = 1 ∧ a.toInt ≤ p.toInt ∧ p.toInt ≤ b.toInt) ∨ (gX11_needRange p a b = 2 ∧ gX12_in p a b = 0) := by
  unfold gX11_needRange gX12_in
  by_cases c1 : p < a
  · rw [if_pos c1, if_pos c1]; exact Or.inr ⟨rfl, rfl⟩
  · rw [if_neg c1, if_neg c1]
    rw [i32lt] at c1
    by_cases c2 : p ≤ b
    · have c3 := c2
      rw [i32le] at c3
      rw [if_pos c2, if_neg (show ¬ b < p by rw [i32lt]; omega)]
      exact Or.inl ⟨rfl, rfl, by omega, c3⟩
    · have c3 := c2
      rw [i32le] at c3
      rw [if_neg c2, if_pos (show b < p by rw [i32lt]; omega)]
      exact Or.inr ⟨rfl, rfl⟩
/-- the basin of a number, in both -/
theorem bn_c {F FM : jF} (G GM : jG) (hN : wN F) (hR : ag shF F FM) (p : Int32) : (∃ j, j < cn F 8 ∧ j < 8 ∧ p = nI j ∧ gX11_needBasin F G p = some j ∧ gX10_basinAt F G p = some j ∧ gX12_isBasin FM GM p = 1) ∨ (gX11_needBasin F G p = none ∧ gX10_basinAt F G p = none ∧ gX12_isBasin FM GM p = 0) := by
  have h8 := hN.1.1
  have e8 : FM 8 0 = nI (cn F 8) := by rw [hR.at 8 (by decide)]; exact h8.1
  have y0 : (0 : Int32).toInt = 0 := rfl
  have y1 : (1 : Int32).toInt = 1 := rfl
  have em : (nI (cn F 8) - 1).toInt = (cn F 8 : Int) - 1 := by rw [i32s (by rw [nI_toInt (by omega), y1]; omega) (by rw [nI_toInt (by omega), y1]; omega), nI_toInt (by omega), y1]
  have hib : gX12_isBasin FM GM p = gX12_in p 0 (nI (cn F 8) - 1) := by unfold gX12_isBasin; rw [bvd, e8]
  rw [hib]
  by_cases c1 : p < 0
  · right
    have hb : gX10_basinAt F G p = none := by unfold gX10_basinAt; rw [if_pos c1]
    refine ⟨by unfold gX11_needBasin; rw [hb, bvd, om_n], hb, in_z.mpr (Or.inl c1)⟩
  · obtain ⟨j, hj, rfl⟩ := nI_of c1
    by_cases c2 : j < cn F 8
    · left
      have hb := ba_in (F := F) G h8.2 c2
      refine ⟨j, c2, by omega, rfl, by unfold gX11_needBasin; rw [hb, bvd, om_s], hb, ?_⟩
      unfold gX12_in
      rw [if_neg c1, if_neg (show ¬ nI (cn F 8) - 1 < nI j by rw [i32lt, em, nI_toInt hj]; omega)]
    · right
      have hb : gX10_basinAt F G (nI j) = none := by
        unfold gX10_basinAt
        rw [if_neg c1]
        split
        · rw [bvd, nI_clamp hj, op_no c2]
        · rfl
      exact ⟨by unfold gX11_needBasin; rw [hb, bvd, om_n], hb, in_z.mpr (Or.inr (by rw [i32lt, em, nI_toInt hj]; omega))⟩
