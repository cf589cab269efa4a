-- what holds of the land, call after call
def ag {α : Type} (ks : List Nat) (F F1 : Nat → Nat → α) : Prop := ∀ k, k ∈ ks → F1 k = F k
def eo (F : jF) (p : Int32) : Prop := p = 20 ∨ p = 21 ∨ ∃ j, j < cn F 8 ∧ p = nI j
def wy (F : jF) (p q : Int32) : Prop := eo F p ∧ eo F q ∧ p ≠ q ∧ ((∃ j, j < cn F 8 ∧ p = nI j) ∨ ∃ j, j < cn F 8 ∧ q = nI j)
def wN (F : jF) : Prop := ((F 8 0 = nI (cn F 8) ∧ cn F 8 ≤ 8) ∧ (F 17 0 = nI (cn F 17) ∧ cn F 17 ≤ 8) ∧ (F 23 0 = nI (cn F 23) ∧ cn F 23 ≤ 8) ∧ (F 32 0 = nI (cn F 32) ∧ cn F 32 ≤ 8)) ∧ ((F 40 0 = nI (cn F 40) ∧ cn F 40 ≤ 12) ∧ (F 44 0 = nI (cn F 44) ∧ cn F 44 ≤ 12) ∧ (F 1 0 = nI (cn F 1) ∧ cn F 1 ≤ 20) ∧ (F 0 0 = nI (cn F 0) ∧ cn F 0 ≤ 9999))
def wB (F : jF) (G : jG) : Prop := ∀ i, (i < cn F 8 → (1 ≤ (F 9 i).toInt ∧ (F 9 i).toInt ≤ 100) ∧ (-500 - 20 * (cn F 1 : Int) ≤ (F 10 i).toInt ∧ (F 10 i).toInt ≤ 500) ∧ (0 ≤ (F 11 i).toInt ∧ (F 11 i).toInt ≤ 20) ∧ (0 ≤ (F 12 i).toInt ∧ (F 12 i).toInt ≤ 9999) ∧ (0 ≤ (F 13 i).toInt ∧ (F 13 i).toInt ≤ 99)) ∧ (cn F 8 ≤ i → F 11 i = 0 ∧ F 13 i = 0 ∧ G 14 i = 0 ∧ G 15 i = 0)
def lev (F : jF) (G : jG) (i : Nat) : Int := 100 * (F 10 i).toInt + (100 * (G 14 i).toInt) / (F 9 i).toInt
def fs (F : jF) : Int := (F 30 0).toInt + (F 30 1).toInt + (F 30 2).toInt + (F 30 3).toInt + (F 30 4).toInt + (F 30 5).toInt + (F 30 6).toInt + (F 30 7).toInt
def wL (b : Int) (F : jF) (G : jG) : Prop := (0 ≤ fs F ∧ 9999 * fs F ≤ b ∧ b ≤ 1720000000) ∧ ∀ i, i < cn F 8 → 0 ≤ (G 14 i).toInt ∧ lev F G i ≤ 100000 + 100 * (b - 9999 * fs F)
def wG (F : jF) : Prop := ∀ i, (i < cn F 17 → wy F (F 18 i) (F 19 i) ∧ (1 ≤ (F 20 i).toInt ∧ (F 20 i).toInt ≤ 9999) ∧ (0 ≤ (F 21 i).toInt ∧ (F 21 i).toInt ≤ 3)) ∧ jb (F 22 i) ∧ (cn F 17 ≤ i → F 22 i = 0)
def wP (c : Nat) (F : jF) : Prop := ∀ i, (i < cn F 23 → wy F (F 24 i) (F 25 i) ∧ (1 ≤ (F 26 i).toInt ∧ (F 26 i).toInt ≤ 9999) ∧ (0 ≤ (F 27 i).toInt ∧ (F 27 i).toInt ≤ 999) ∧ (1 ≤ (F 28 i).toInt ∧ (F 28 i).toInt ≤ 999)) ∧ jb (F 29 i) ∧ (0 ≤ (F 30 i).toInt ∧ (F 30 i).toInt ≤ 99 * (c : Int)) ∧ (0 ≤ (F 31 i).toInt ∧ (F 31 i).toInt ≤ 999) ∧ (cn F 23 ≤ i → F 29 i = 0 ∧ F 30 i = 0 ∧ F 31 i = 0)
def wD (F : jF) (G : jG) : Prop := ∀ i, (i < cn F 32 → wy F (F 33 i) (F 34 i) ∧ (1 ≤ (F 36 i).toInt ∧ (F 36 i).toInt ≤ 999) ∧ (0 ≤ (F 37 i).toInt ∧ (F 37 i).toInt ≤ 99)) ∧ (0 ≤ (F 39 i).toInt ∧ (F 39 i).toInt ≤ 10) ∧ (0 ≤ (G 61 i).toInt ∧ (G 61 i).toInt ≤ 2000000000) ∧ (F 39 i = 0 → (G 61 i).toInt ≤ 998) ∧ (cn F 32 ≤ i → F 39 i = 0 ∧ G 61 i = 0)
def wS (F : jF) : Prop := ∀ i, i < cn F 40 → (0 ≤ (F 41 i).toInt ∧ (F 41 i).toInt ≤ 9999) ∧ (1 ≤ (F 42 i).toInt ∧ (F 42 i).toInt ≤ 99) ∧ (1 ≤ (F 43 i).toInt ∧ (F 43 i).toInt ≤ 500)
def wR (F : jF) : Prop := ∀ i, i < cn F 44 → (∃ j, j < cn F 8 ∧ F 45 i = nI j) ∧ (0 ≤ (F 46 i).toInt ∧ (F 46 i).toInt ≤ 9999) ∧ (1 ≤ (F 47 i).toInt ∧ (F 47 i).toInt ≤ 99) ∧ (1 ≤ (F 48 i).toInt ∧ (F 48 i).toInt ≤ 9999)
def wC (c : Nat) (F : jF) : Prop := ∀ i, i < 3 → (∃ j, j < 8 ∧ F 49 i = nI j) ∧ (0 ≤ (F 50 i).toInt ∧ (F 50 i).toInt ≤ 10 + 99 * (c : Int)) ∧ (F 64 i = -1 ∨ ∃ k, k < cn F 32 ∧ F 64 i = nI k)
def wWk (F : jF) : Prop := ∀ i, (F 65 i = -1 ∨ ∃ k, k < cn F 32 ∧ F 65 i = nI k) ∧ (F 65 i ≠ -1 → (1 ≤ (F 66 i).toInt ∧ (F 66 i).toInt ≤ 99) ∧ (1 ≤ (F 67 i).toInt ∧ (F 67 i).toInt ≤ 9))
def wO (F : jF) : Prop := (-99 ≤ (F 5 0).toInt ∧ (F 5 0).toInt ≤ 99) ∧ (0 ≤ (F 6 0).toInt ∧ (F 6 0).toInt ≤ 400) ∧ (-9999 ≤ (F 7 0).toInt ∧ (F 7 0).toInt ≤ 99999) ∧ (0 ≤ (F 4 0).toInt ∧ (F 4 0).toInt ≤ 9999)
def wM (c : Nat) (F : jF) : Prop := (0 ≤ (F 62 0).toInt ∧ (F 62 0).toInt ≤ 9999 * (c : Int)) ∧ (0 ≤ (F 3 0).toInt ∧ (F 3 0).toInt ≤ 9999)
def wT (F : jF) : Prop := (∀ i, jb (F 16 i)) ∧ ∀ a b, a < 8 → b < 8 → F 16 (8 * a + b) = F 16 (8 * b + a)
def wV (x : Int64) : Prop := x = -9223372036854775808 ∨ (-200000 ≤ x.toInt ∧ x.toInt ≤ 200000)
def wZ (F : jF) (G : jG) : Prop := G 69 0 = gX6_seaAt F G (F 0 0) ∧ wV (G 58 0) ∧ (∀ i, wV (G 57 i)) ∧ ∀ i, cn F 1 ≤ i → G 57 i = 0
-- the reference beside it
def shF : List Nat := [0, 1, 3, 4, 5, 6, 7, 8, 9, 10, 11, 12, 13, 16, 17, 18, 19, 20, 21, 22, 23, 24, 25, 26, 27, 28, 29, 30, 31, 32, 33, 34, 35, 36, 37, 39, 40, 41, 42, 43, 44, 45, 46, 47, 48, 49]
def shG : List Nat := [14, 15, 56, 57, 58]
theorem ag.at {α : Type} {ks : List Nat} {F F1 : Nat → Nat → α} (h : ag ks F F1) (k : Nat) (hk : k ∈ ks) : F1 k = F k := h k hk
theorem cn_of {F F1 : jF} {k : Nat} (h : F1 k = F k) : cn F1 k = cn F k := by unfold cn; rw [h]
-- literals
theorem c100 : (100 : Int64).toInt = 100 := rfl
theorem n8 : (8 : Int32) = nI 8 := rfl
theorem n12 : (12 : Int32) = nI 12 := rfl
theorem nI_n20 {j : Nat} (h : j < 20) : nI j ≠ 20 := by
  intro e; rw [i32eq, nI_toInt (by omega)] at e
  have : (20 : Int32).toInt = 20 := rfl
  omega
theorem nI_n21 {j : Nat} (h : j < 20) : nI j ≠ 21 := by
  intro e; rw [i32eq, nI_toInt (by omega)] at e
  have : (21 : Int32).toInt = 21 := rfl
  omega
theorem nI_n1 {j : Nat} (h : j < 20) : nI j ≠ -1 := by
  intro e; rw [i32eq, nI_toInt (by omega)] at e
  have : (-1 : Int32).toInt = -1 := rfl
  omega
theorem nI_vin {j n : Nat} (h : j < n) (hn : n ≤ 100) : vp_in (nI j) n := nI_in h (by omega)
-- ends
theorem ba_in {F : jF} (G : jG) {j : Nat} (hn : cn F 8 ≤ 8) (h : j < cn F 8) : gX10_basinAt F G (nI j) = some j := by
  unfold gX10_basinAt
  simp only [bvd]
  unfold op
  rw [if_neg (nI_pos (by omega)), n8, if_pos (nI_lt (by omega) (by omega)), nI_clamp (by omega), if_pos h]
theorem ba_20 (F : jF) (G : jG) : gX10_basinAt F G 20 = none := rfl
theorem ba_21 (F : jF) (G : jG) : gX10_basinAt F G 21 = none := rfl
theorem ba_ok {F : jF} {G : jG} (p : Int32) : okX10_basinAt F G p := by
  unfold okX10_basinAt
  refine ⟨fun _ => trivial, fun h => ⟨fun h8 => ?_, fun _ => trivial⟩⟩
  obtain ⟨j, hj, rfl⟩ := nI_of h
  rw [n8] at h8
  exact nI_vin ((nI_ltI hj (by omega)).mp h8) (by omega)
theorem eo_in {F : jF} (hN : wN F) {p : Int32} (h : eo F p) : gX10_isEnd F (fun _ _ => 0) p = 1 ∧ (p = 20 ∨ p = 21 ∨ ∃ j, j < cn F 8 ∧ j < 8 ∧ p = nI j) := by
  have h8 := hN.1.1.2
  rcases h with rfl | rfl | ⟨j, hj, rfl⟩
  · exact ⟨rfl, Or.inl rfl⟩
  · exact ⟨rfl, Or.inr (Or.inl rfl)⟩
  · refine ⟨?_, Or.inr (Or.inr ⟨j, hj, by omega, rfl⟩)⟩
    unfold gX10_isEnd
    simp only [bvd]
    rw [if_neg (nI_n20 (by omega)), if_neg (nI_n21 (by omega)), ba_in _ h8 hj]
    rfl
-- bounds of a level
theorem lev_b {b : Int} {F : jF} {G : jG} (hN : wN F) (hB : wB F G) (hL : wL b F G) {i : Nat} (hi : i < cn F 8) : (0 ≤ (G 14 i).toInt ∧ (G 14 i).toInt ≤ 180000000000) ∧ -90000 ≤ lev F G i ∧ lev F G i ≤ 172000100000 := by
  obtain ⟨⟨⟨ha1, ha2⟩, ⟨hg1, hg2⟩, -⟩, -⟩ := And.intro ((hB i).1 hi) trivial
  obtain ⟨⟨hf0, hf1, hf2⟩, hL⟩ := hL
  obtain ⟨hw, hl⟩ := hL i hi
  have hy : cn F 1 ≤ 20 := hN.2.2.2.1.2
  have h0 := lv_0 (w := (G 14 i).toInt) (a := (F 9 i).toInt) (by omega) hw
  have h1 : (100 * (G 14 i).toInt) / (F 9 i).toInt ≤ 172000190000 := by unfold lev at hl; omega
  have h2 := lv_w (by omega) ha2 h1 (by omega)
  refine ⟨⟨hw, by omega⟩, ?_, by omega⟩
  unfold lev; omega
theorem ht_lev {b : Int} {F : jF} {G : jG} (hN : wN F) (hB : wB F G) (hL : wL b F G) {i : Nat} (hi : i < cn F 8) : (gX0_height F G i).toInt = lev F G i ∧ gX0_height F G i = 100 * (F 10 i).toInt64 + 100 * G 14 i / (F 9 i).toInt64 := by
  have hb := lev_b hN hB hL hi
  obtain ⟨⟨ha1, ha2⟩, ⟨hg1, hg2⟩, -⟩ := (hB i).1 hi
  have hy : cn F 1 ≤ 20 := hN.2.2.2.1.2
  have h1 : (1 : Int32) ≤ F 9 i := i32le.mpr ha1
  have e1 := @i64m 100 (G 14 i) (by rw [c100]; omega) (by rw [c100]; omega)
  rw [c100] at e1
  have e2 := @i64d (100 * G 14 i) (F 9 i).toInt64 (by rw [e1]; omega) (by rw [i3264]; omega)
  rw [e1, i3264] at e2
  have e3 := @i64m 100 (F 10 i).toInt64 (by rw [c100, i3264]; omega) (by rw [c100, i3264]; omega)
  rw [c100, i3264] at e3
  have e4 : gX0_height F G i = 100 * (F 10 i).toInt64 + 100 * G 14 i / (F 9 i).toInt64 := by unfold gX0_height bv; rw [if_pos h1]
  refine ⟨?_, e4⟩
  have hl := hb.2
  unfold lev at hl ⊢
  rw [e4, i64a (by rw [e2, e3]; omega) (by rw [e2, e3]; omega), e2, e3]
