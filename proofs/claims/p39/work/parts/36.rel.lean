-- the class's land and the reference's state, side by side
theorem sgS_G (F : jF) (G G1 : jG) (p : Int32) : sgS F G p = sgS F G1 p := by
  funext i v
  unfold sgS gX9_surgeAt
  rfl
theorem sea_G {F : jF} (hN : wN F) (G G1 : jG) (p : Int32) : gX6_seaAt F G p = gX6_seaAt F G1 p := by
  unfold gX6_seaAt
  rw [sg_eq G hN, sg_eq G1 hN]
  unfold sgR
  rw [sgS_G F G G1]
  rfl
theorem sea_F {F F1 : jF} (hN : wN F) (hN1 : wN F1) (h : ag [5, 6, 40, 41, 42, 43] F F1) (G : jG) (p : Int32) : gX6_seaAt F1 G p = gX6_seaAt F G p := by
  have e : sgS F1 G p = sgS F G p := by
    funext i v
    unfold sgS gX9_surgeAt cn
    rw [h.at 40 (by decide), h.at 41 (by decide), h.at 42 (by decide), h.at 43 (by decide)]
  unfold gX6_seaAt gX6_tideAt
  rw [sg_eq G hN, sg_eq G hN1]
  unfold sgR cn
  rw [e, h.at 40 (by decide), h.at 5 (by decide), h.at 6 (by decide)]
/-- the works that go on -/
def wkC (F : jF) : List (Int32 × Int32 × Int32) := ((List.range 6).filter (fun i => decide (F 65 i ≠ -1))).map (fun i => (F 65 i, F 66 i, F 67 i))
def wkM (FM : jF) : List (Int32 × Int32 × Int32) := (List.range (cn FM 52)).map (fun i => (FM 53 i, FM 54 i, FM 55 i))
def rX (F : jF) (G : jG) (FM : jF) (GM : jG) : Prop := (F 62 0).toInt64 = GM 2 0 ∧ (∀ i, (FM 38 i).toInt64 = G 61 i) ∧ (∀ i, i < 3 → FM 50 i = F 50 i ∧ FM 51 i = F 64 i + 1) ∧ (FM 52 0 = nI (cn FM 52) ∧ cn FM 52 ≤ 6 ∧ (wkC F).Perm (wkM FM))
def wY (c : Nat) (F : jF) (G : jG) : Prop := (wG F ∧ wP c F ∧ wD F G) ∧ (wR F ∧ wC c F ∧ wWk F) ∧ (wM c F ∧ wT F)
def RR (b : Int) (c : Nat) (F : jF) (G : jG) (FM : jF) (GM : jG) : Prop := (wE b F G ∧ wY c F G) ∧ (ag shF F FM ∧ ag shG G GM) ∧ rX F G FM GM
-- what depends on what
theorem wy_c {F F1 : jF} (h : F1 8 = F 8) {p q : Int32} (hw : wy F p q) : wy F1 p q := by
  have e := cn_of h
  unfold wy eo at *
  rw [e]; exact hw
theorem wN_c {F F1 : jF} (h : ag [0, 1, 8, 17, 23, 32, 40, 44] F F1) (hw : wN F) : wN F1 := by
  unfold wN cn at *
  rw [h.at 0 (by decide), h.at 1 (by decide), h.at 8 (by decide), h.at 17 (by decide), h.at 23 (by decide), h.at 32 (by decide), h.at 40 (by decide), h.at 44 (by decide)]
  exact hw
theorem wB_c {F F1 : jF} {G G1 : jG} (h : ag [1, 8, 9, 10, 11, 12, 13] F F1) (h15 : G1 15 = G 15) (h14 : ∀ i, cn F 8 ≤ i → G1 14 i = G 14 i) (hw : wB F G) : wB F1 G1 := by
  have e8 := cn_of (h.at 8 (by decide))
  have e1 := cn_of (h.at 1 (by decide))
  intro i
  obtain ⟨w1, w2⟩ := hw i
  rw [e8, e1, h.at 9 (by decide), h.at 10 (by decide), h.at 11 (by decide), h.at 12 (by decide), h.at 13 (by decide), h15]
  exact ⟨w1, fun hi => by rw [h14 i hi]; exact w2 hi⟩
theorem lev_c {F F1 : jF} {G : jG} (h : ag [9, 10] F F1) (i : Nat) : lev F1 G i = lev F G i := by
  unfold lev
  rw [h.at 9 (by decide), h.at 10 (by decide)]
theorem wL_c {b : Int} {F F1 : jF} {G : jG} (h : ag [8, 9, 10, 30] F F1) (hw : wL b F G) : wL b F1 G := by
  have e8 := cn_of (h.at 8 (by decide))
  have e30 : fs F1 = fs F := by unfold fs; rw [h.at 30 (by decide)]
  unfold wL at *
  rw [e30, e8]
  exact ⟨hw.1, fun i hi => by rw [lev_c (fun k hk => h k (by revert hk; simp; omega))]; exact hw.2 i hi⟩
theorem wS_c {F F1 : jF} (h : ag [40, 41, 42, 43] F F1) (hw : wS F) : wS F1 := by
  have e := cn_of (h.at 40 (by decide))
  unfold wS at *
  rw [e, h.at 41 (by decide), h.at 42 (by decide), h.at 43 (by decide)]
  exact hw
theorem wO_c {F F1 : jF} (h : ag [4, 5, 6, 7] F F1) (hw : wO F) : wO F1 := by
  unfold wO at *
  rw [h.at 4 (by decide), h.at 5 (by decide), h.at 6 (by decide), h.at 7 (by decide)]
  exact hw
theorem wZ_c {F F1 : jF} {G G1 : jG} (hN : wN F) (hN1 : wN F1) (h : ag [0, 1, 5, 6, 40, 41, 42, 43] F F1) (hG : ag [57, 58, 69] G G1) (hw : wZ F G) : wZ F1 G1 := by
  have e1 := cn_of (h.at 1 (by decide))
  have e := sea_F hN hN1 (fun k hk => h k (by revert hk; simp; omega)) G1 (F 0 0)
  have e2 := sea_G hN G1 G (F 0 0)
  unfold wZ at *
  rw [hG.at 57 (by decide), hG.at 58 (by decide), hG.at 69 (by decide), e1, h.at 0 (by decide), e, e2]
  exact hw
theorem wG_c {F F1 : jF} (h : ag [8, 17, 18, 19, 20, 21, 22] F F1) (hw : wG F) : wG F1 := by
  have e := cn_of (h.at 17 (by decide))
  intro i
  obtain ⟨w1, w2, w3⟩ := hw i
  rw [e, h.at 18 (by decide), h.at 19 (by decide), h.at 20 (by decide), h.at 21 (by decide), h.at 22 (by decide)]
  exact ⟨fun hi => ⟨wy_c (h.at 8 (by decide)) (w1 hi).1, (w1 hi).2⟩, w2, w3⟩
theorem wP_c {c : Nat} {F F1 : jF} (h : ag [8, 23, 24, 25, 26, 27, 28, 29, 30, 31] F F1) (hw : wP c F) : wP c F1 := by
  have e := cn_of (h.at 23 (by decide))
  intro i
  obtain ⟨w1, w2⟩ := hw i
  rw [e, h.at 24 (by decide), h.at 25 (by decide), h.at 26 (by decide), h.at 27 (by decide), h.at 28 (by decide), h.at 29 (by decide), h.at 30 (by decide), h.at 31 (by decide)]
  exact ⟨fun hi => ⟨wy_c (h.at 8 (by decide)) (w1 hi).1, (w1 hi).2⟩, w2⟩
theorem wD_c {F F1 : jF} {G G1 : jG} (h : ag [8, 32, 33, 34, 36, 37, 39] F F1) (h61 : G1 61 = G 61) (hw : wD F G) : wD F1 G1 := by
  have e := cn_of (h.at 32 (by decide))
  intro i
  obtain ⟨w1, w2⟩ := hw i
  rw [e, h.at 33 (by decide), h.at 34 (by decide), h.at 36 (by decide), h.at 37 (by decide), h.at 39 (by decide), h61]
  exact ⟨fun hi => ⟨wy_c (h.at 8 (by decide)) (w1 hi).1, (w1 hi).2⟩, w2⟩
theorem wR_c {F F1 : jF} (h : ag [8, 44, 45, 46, 47, 48] F F1) (hw : wR F) : wR F1 := by
  have e := cn_of (h.at 44 (by decide))
  have e8 := cn_of (h.at 8 (by decide))
  unfold wR at *
  rw [e, e8, h.at 45 (by decide), h.at 46 (by decide), h.at 47 (by decide), h.at 48 (by decide)]
  exact hw
theorem wC_c {c : Nat} {F F1 : jF} (h : ag [32, 49, 50, 64] F F1) (hw : wC c F) : wC c F1 := by
  have e := cn_of (h.at 32 (by decide))
  unfold wC at *
  rw [e, h.at 49 (by decide), h.at 50 (by decide), h.at 64 (by decide)]
  exact hw
theorem wWk_c {F F1 : jF} (h : ag [32, 65, 66, 67] F F1) (hw : wWk F) : wWk F1 := by
  have e := cn_of (h.at 32 (by decide))
  unfold wWk at *
  rw [e, h.at 65 (by decide), h.at 66 (by decide), h.at 67 (by decide)]
  exact hw
theorem wM_c {c : Nat} {F F1 : jF} (h : ag [3, 62] F F1) (hw : wM c F) : wM c F1 := by
  unfold wM at *
  rw [h.at 3 (by decide), h.at 62 (by decide)]
  exact hw
theorem wT_c {F F1 : jF} (h : F1 16 = F 16) (hw : wT F) : wT F1 := by
  unfold wT at *
  rw [h]; exact hw
theorem wkC_c {F F1 : jF} (h : ag [65, 66, 67] F F1) : wkC F1 = wkC F := by
  unfold wkC
  rw [h.at 65 (by decide), h.at 66 (by decide), h.at 67 (by decide)]
theorem wkM_c {F F1 : jF} (h : ag [52, 53, 54, 55] F F1) : wkM F1 = wkM F := by
  unfold wkM cn
  rw [h.at 52 (by decide), h.at 53 (by decide), h.at 54 (by decide), h.at 55 (by decide)]
theorem rX_c {F F1 FM FM1 : jF} {G G1 GM GM1 : jG} (h : ag [50, 62, 64, 65, 66, 67] F F1) (hm : ag [38, 50, 51, 52, 53, 54, 55] FM FM1) (hg : G1 61 = G 61) (hgm : GM1 2 = GM 2) (hw : rX F G FM GM) : rX F1 G1 FM1 GM1 := by
  have e1 := wkC_c (F := F) (F1 := F1) (fun k hk => h k (by revert hk; simp; omega))
  have e2 := wkM_c (F := FM) (F1 := FM1) (fun k hk => hm k (by revert hk; simp; omega))
  have e3 := cn_of (hm.at 52 (by decide))
  unfold rX at *
  rw [e1, e2, e3, h.at 62 (by decide), h.at 50 (by decide), h.at 64 (by decide), hm.at 38 (by decide), hm.at 50 (by decide), hm.at 51 (by decide), hm.at 52 (by decide), hg, hgm]
  exact hw
theorem ag_off {α : Type} {ks : List Nat} (F : Nat → Nat → α) {k : Nat} (h : k ∉ ks) (i : Nat) (v : α) : ag ks F (u2 F k i v) := by
  intro k1 hk
  exact u2_other F (fun e => h (by rw [← e]; exact hk)) i v
theorem ag_rf {α : Type} (ks : List Nat) (F : Nat → Nat → α) : ag ks F F := fun _ _ => rfl
theorem ag_tr {α : Type} {ks : List Nat} {F F1 F2 : Nat → Nat → α} (h : ag ks F F1) (h2 : ag ks F1 F2) : ag ks F F2 := fun k hk => (h2 k hk).trans (h k hk)
/-- after a flow -/
theorem wE_G {b b1 : Int} {F : jF} {G G1 : jG} (h : wE b F G) (hk : ∀ k, k ≠ 14 → k ≠ 56 → G1 k = G k) (h14 : ∀ i, cn F 8 ≤ i → G1 14 i = G 14 i) (hL : wL b1 F G1) : wE b1 F G1 := by
  obtain ⟨a1, a2, a3, a4, a5, a6⟩ := h
  exact ⟨a1, wB_c (ag_rf _ F) (hk 15 (by decide) (by decide)) h14 a2, hL, a4, a5, wZ_c a1 a1 (ag_rf _ F) (fun k h => hk k (by revert h; simp; omega) (by revert h; simp; omega)) a6⟩
theorem RR_flow {b b1 : Int} {c : Nat} {F FM : jF} {G GM G1 GM1 : jG} (h : RR b c F G FM GM) (hk : ∀ k, k ≠ 14 → k ≠ 56 → G1 k = G k ∧ GM1 k = GM k) (h14 : ∀ i, cn F 8 ≤ i → G1 14 i = G 14 i) (hL : wL b1 F G1) (hG : ag shG G1 GM1) : RR b1 c F G1 FM GM1 := by
  obtain ⟨⟨h1, h2⟩, ⟨h3, h4⟩, h5⟩ := h
  obtain ⟨⟨g1, g2, g3⟩, g4, g5⟩ := h2
  exact ⟨⟨wE_G h1 (fun k a b => (hk k a b).1) h14 hL, ⟨⟨g1, g2, wD_c (ag_rf _ F) (hk 61 (by decide) (by decide)).1 g3⟩, g4, g5⟩⟩, ⟨h3, hG⟩, rX_c (ag_rf _ F) (ag_rf _ FM) (hk 61 (by decide) (by decide)).1 (hk 2 (by decide) (by decide)).2 h5⟩
