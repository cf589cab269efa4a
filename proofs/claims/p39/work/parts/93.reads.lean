-- what the law asks for, of the class's land
theorem nI_inj2 {a b : Nat} (ha : a < 1000) (hb : b < 1000) (e : nI a = nI b) : a = b := by
  rw [i32eq, nI_toInt (by omega), nI_toInt (by omega)] at e
  omega
theorem in_y {p a b : Int32} (h1 : a.toInt ≤ p.toInt) (h2 : p.toInt ≤ b.toInt) : gX12_in p a b = 1 := by
  unfold gX12_in
  rw [if_neg (by rw [i32lt]; omega), if_neg (by rw [i32lt]; omega)]
theorem in_n {k c : Nat} (hk : k < c) (hc : c ≤ 100) : gX12_in (nI k) 0 (nI c - 1) = 1 := by
  have y1 : (1 : Int32).toInt = 1 := rfl
  have y0 : (0 : Int32).toInt = 0 := rfl
  have em : (nI c - 1).toInt = (c : Int) - 1 := by rw [i32s (by rw [nI_toInt (by omega), y1]; omega) (by rw [nI_toInt (by omega), y1]; omega), nI_toInt (by omega), y1]
  exact in_y (by rw [y0, nI_toInt (by omega)]; omega) (by rw [em, nI_toInt (by omega)]; omega)
theorem bn_y {F FM : jF} (G GM : jG) (hN : wN F) (hR : ag shF F FM) {k : Nat} (hk : k < cn F 8) : gX11_needBasin F G (nI k) = some k ∧ gX12_isBasin FM GM (nI k) = 1 := by
  have h8 := hN.1.1.2
  rcases bn_c G GM hN hR (nI k) with ⟨j, hj, hj8, ej, e2, e3, e4⟩ | ⟨e2, e3, e4⟩
  · have := nI_inj2 (by omega) (by omega) ej
    subst this
    exact ⟨e2, e4⟩
  · rw [ba_in G h8 hk] at e3
    exact absurd e3 (by simp)
theorem gt_y {F FM : jF} (G : jG) (hN : wN F) (hR : ag shF F FM) {k : Nat} (hk : k < cn F 17) : gX11_needGate F G (nI k) = some k ∧ gX12_in (nI k) 0 (FM 17 0 - 1) = 1 := by
  have h8 := hN.1.2.1
  have e9 : gX12_in (nI k) 0 (FM 17 0 - 1) = 1 := by rw [hR.at 17 (by decide), h8.1]; exact in_n hk (by omega)
  rcases gt_c G hN hR (nI k) with ⟨j, hj, hj8, ej, e2, e3, e4⟩ | ⟨e2, e3, e4⟩
  · have := nI_inj2 (by omega) (by omega) ej
    subst this
    exact ⟨e2, e4⟩
  · rw [e9] at e4; exact absurd e4 (by decide)
theorem pu_y {F FM : jF} (G : jG) (hN : wN F) (hR : ag shF F FM) {k : Nat} (hk : k < cn F 23) : gX11_needPump F G (nI k) = some k ∧ gX12_in (nI k) 0 (FM 23 0 - 1) = 1 := by
  have h8 := hN.1.2.2.1
  have e9 : gX12_in (nI k) 0 (FM 23 0 - 1) = 1 := by rw [hR.at 23 (by decide), h8.1]; exact in_n hk (by omega)
  rcases pu_c G hN hR (nI k) with ⟨j, hj, hj8, ej, e2, e3, e4⟩ | ⟨e2, e3, e4⟩
  · have := nI_inj2 (by omega) (by omega) ej
    subst this
    exact ⟨e2, e4⟩
  · rw [e9] at e4; exact absurd e4 (by decide)
theorem dy_y {F FM : jF} (G : jG) (hN : wN F) (hR : ag shF F FM) {k : Nat} (hk : k < cn F 32) : gX11_needDyke F G (nI k) = some k ∧ gX12_in (nI k) 0 (FM 32 0 - 1) = 1 := by
  have h8 := hN.1.2.2.2
  have e9 : gX12_in (nI k) 0 (FM 32 0 - 1) = 1 := by rw [hR.at 32 (by decide), h8.1]; exact in_n hk (by omega)
  rcases dy_c G hN hR (nI k) with ⟨j, hj, hj8, ej, e2, e3, e4⟩ | ⟨e2, e3, e4⟩
  · have := nI_inj2 (by omega) (by omega) ej
    subst this
    exact ⟨e2, e4⟩
  · rw [e9] at e4; exact absurd e4 (by decide)
theorem cr_y (F : jF) (G : jG) {k : Nat} (hk : k < 3) : gX11_needCrew F G (nI k) = some k ∧ gX12_in (nI k) 0 2 = 1 := by
  have e9 : gX12_in (nI k) 0 2 = 1 := in_n (c := 3) hk (by omega)
  rcases cr_c F G (nI k) with ⟨j, hj, hj8, ej, e2, e3, e4⟩ | ⟨e2, e3, e4⟩
  · have := nI_inj2 (by omega) (by omega) ej
    subst this
    exact ⟨e2, e4⟩
  · rw [e9] at e4; exact absurd e4 (by decide)
theorem nr_y {p a b : Int32} (h1 : a.toInt ≤ p.toInt) (h2 : p.toInt ≤ b.toInt) : gX11_needRange p a b = 0 := by
  rcases nr_c p a b with ⟨a1, -⟩ | ⟨a1, a2⟩
  · exact a1
  · rw [in_y h1 h2] at a2; exact absurd a2 (by decide)
section FX
variable {b : Int} {c : Nat} {F FM : jF} {G GM : jG}
theorem fx_water (h : RR b c F G FM GM) (M : jF) {k : Nat} (hk : k < cn F 8) : okX11_water F G M (nI k) ∧ gX11_water F G M (nI k) = (0, G 14 k) ∧ ¬ G 14 k < 0 := by
  have hN := h.1.1.1
  refine ⟨(rd_water h M (nI k)).1, ?_, ?_⟩
  · unfold gX11_water
    rw [(bn_y G GM hN h.2.1.1 hk).1, om_s]
  · have := (h.1.1.2.2.1.2 k hk).1
    rw [i64lt, show (0 : Int64).toInt = 0 from rfl]; omega
theorem fx_harm {B : Int} (h : RR b c F G FM GM) (hh : hb B GM) (M : jF) {k : Nat} (hk : k < cn F 8) : okX11_harm F G M (nI k) ∧ gX11_harm F G M (nI k) = (0, G 15 k) ∧ ¬ G 15 k < 0 := by
  have hN := h.1.1.1
  refine ⟨(rd_harm h M (nI k)).1, ?_, ?_⟩
  · unfold gX11_harm
    rw [(bn_y G GM hN h.2.1.1 hk).1, om_s]
  · have := (hh k).1
    rw [← h.2.1.2.at 15 (by decide), i64lt, show (0 : Int64).toInt = 0 from rfl]; omega
theorem fx_level (h : RR b c F G FM GM) (M : jF) {k : Nat} (hk : k < cn F 8) : ∃ v, okX11_level F G M (nI k) ∧ gX11_level F G M (nI k) = (0, v) ∧ ¬ v < (-1000000) := by
  have hE := h.1.1
  have hN := hE.1
  have h8 := hN.1.1.2
  refine ⟨gX10_heightOf F G (nI k), (rd_level h M (nI k)).1, ?_, ?_⟩
  · rcases we_c G GM hN h.2.1.1 (nI k) with ⟨a1, a2, a3⟩ | ⟨a2, a3⟩
    · unfold gX11_level; rw [bvd, a2, if_pos rfl, bvd]
    · exfalso
      unfold gX12_isEnd at a3
      rw [bvd, (bn_y G GM hN h.2.1.1 hk).2, if_neg (by decide)] at a3
      exact absurd a3 (by decide)
  · have e : gX10_heightOf F G (nI k) = gX0_height F G k := by
      unfold gX10_heightOf
      rw [if_neg (nI_n20 (by omega)), if_neg (nI_n21 (by omega)), ba_in G h8 hk]
      simp only [bvd, om_s]
    have h1 := ht_lev hN hE.2.1 hE.2.2.1 hk
    have h2 := lev_b hN hE.2.1 hE.2.2.1 hk
    rw [e, i64lt, h1.1, show (-1000000 : Int64).toInt = -1000000 from rfl]
    omega
theorem fx_ledger (h : RR b c F G FM GM) (M : jF) {j : Nat} (hj : j < 4) : okX11_ledger F G M (nI j) ∧ gX11_ledger F G M (nI j) = (0, G 56 j) := by
  have y4 : (4 : Int32).toInt = 4 := rfl
  refine ⟨(rd_ledger h M (nI j)).1, ?_⟩
  unfold gX11_ledger gX10_came
  rw [bvd, nr_y (p := nI j) (a := 0) (b := 3) (by rw [nI_toInt (by omega), show (0 : Int32).toInt = 0 from rfl]; omega) (by rw [nI_toInt (by omega), show (3 : Int32).toInt = 3 from rfl]; omega), if_pos rfl, bvd, bvd, if_neg (nI_pos (by omega)), if_pos (show nI j < 4 by rw [i32lt, nI_toInt (by omega), y4]; omega), nI_clamp (by omega)]
theorem fx_bal (h : RR b c F G FM GM) (hb0 : bal GM = 0) : sW (G 14) (cn F 8) = G 56 0 + G 56 1 + G 56 2 - G 56 3 := by
  have h8 := h.1.1.1.1.1.2
  have e14 := h.2.1.2.at 14 (by decide)
  have e56 := h.2.1.2.at 56 (by decide)
  unfold bal at hb0
  rw [e14, e56] at hb0
  have hz : ∀ d, cn F 8 + d ≤ 8 → sW (G 14) (cn F 8 + d) = sW (G 14) (cn F 8) := by
    intro d
    induction d with
    | zero => intro _; rfl
    | succ d ih =>
      intro hd
      show sW (G 14) (cn F 8 + d) + G 14 (cn F 8 + d) = _
      rw [ih (by omega), ((h.1.1.2.1 (cn F 8 + d)).2 (by omega)).2.2.1, Int64.add_zero]
  have h1 := hz (8 - cn F 8) (by omega)
  rw [show cn F 8 + (8 - cn F 8) = 8 by omega] at h1
  rw [h1] at hb0
  grind
theorem fx_money (h : RR b c F G FM GM) : ¬ F 62 0 < 0 := by
  have := h.1.2.2.2.1.1.1
  rw [i32lt, show (0 : Int32).toInt = 0 from rfl]; omega
theorem fx_sea (h : RR b c F G FM GM) (M : jF) : (okX11_level F G M 20 ∧ gX11_level F G M 20 = (0, G 69 0)) ∧ (okX11_sea F G M (F 0 0) ∧ gX11_sea F G M (F 0 0) = (0, G 69 0)) := by
  have hN := h.1.1.1
  have hz := h.1.1.2.2.2.2.2.1
  have h0 := hN.2.2.2.2
  refine ⟨⟨(rd_level h M 20).1, ?_⟩, (rd_sea h M (F 0 0)).1, ?_⟩
  · rcases we_c G GM hN h.2.1.1 20 with ⟨a1, a2, a3⟩ | ⟨a2, a3⟩
    · unfold gX11_level gX10_heightOf; rw [bvd, a2, if_pos rfl, bvd, if_pos rfl]
    · exfalso
      unfold gX11_needEnd gX10_isEnd at a2
      simp only [bvd] at a2
      rw [if_pos trivial] at a2
      exact absurd a2 (by decide)
  · unfold gX11_sea
    rw [bvd, nr_y (p := F 0 0) (a := 0) (b := 9999) (by rw [h0.1, nI_toInt (by omega), show (0 : Int32).toInt = 0 from rfl]; omega) (by rw [h0.1, nI_toInt (by omega), show (9999 : Int32).toInt = 9999 from rfl]; omega), if_pos rfl, bvd, ← hz]
theorem fx_dyke (h : RR b c F G FM GM) (M : jF) {k : Nat} (hk : k < cn F 32) : (∃ v, okX11_dyke F G M (nI k) 2 ∧ gX11_dyke F G M (nI k) 2 = (0, v) ∧ ¬ v < 0 ∧ ¬ (10 : Int32) < v) ∧ ∃ v, okX11_dyke F G M (nI k) 1 ∧ gX11_dyke F G M (nI k) 1 = (0, v) ∧ ¬ v < 0 := by
  have hN := h.1.1.1
  have hd := h.1.2.1.2.2 k
  have e1 := (dy_y G hN h.2.1.1 hk).1
  refine ⟨⟨F 39 k, (rd_dyke h M (nI k) 2).1, ?_, ?_, ?_⟩, Int64.toInt32 (G 61 k), (rd_dyke h M (nI k) 1).1, ?_, ?_⟩
  · unfold gX11_dyke
    rw [e1, om_s, bvd, nr_y (by decide) (by decide), if_pos rfl, if_neg (by decide), bvd, if_neg (by decide)]
  · have := hd.2.1.1
    rw [i32lt, show (0 : Int32).toInt = 0 from rfl]; omega
  · have := hd.2.1.2
    rw [i32lt, show (10 : Int32).toInt = 10 from rfl]; omega
  · unfold gX11_dyke
    rw [e1, om_s, bvd, nr_y (by decide) (by decide), if_pos rfl, if_neg (by decide), bvd, if_pos rfl]
  · have h1 := hd.2.2.1
    have : (Int64.toInt32 (G 61 k)).toInt = (G 61 k).toInt := by rw [Int64.toInt_toInt32]; exact Int.bmod_eq_of_le (by omega) (by omega)
    rw [i32lt, this, show (0 : Int32).toInt = 0 from rfl]; omega
theorem gx_pump (h : RR b c F G FM GM) (M : jF) {k : Nat} (hk : k < cn F 23) : (okX11_pump F G M (nI k) 1 ∧ gX11_pump F G M (nI k) 1 = (0, F 30 k)) ∧ okX11_pump F G M (nI k) 2 ∧ gX11_pump F G M (nI k) 2 = (0, F 31 k) := by
  have hN := h.1.1.1
  have e1 := (pu_y G hN h.2.1.1 hk).1
  refine ⟨⟨(rd_pump h M (nI k) 1).1, ?_⟩, (rd_pump h M (nI k) 2).1, ?_⟩
  · unfold gX11_pump
    rw [e1, om_s, bvd, nr_y (by decide) (by decide), if_pos rfl, if_neg (by decide), bvd, if_pos rfl]
  · unfold gX11_pump
    rw [e1, om_s, bvd, nr_y (by decide) (by decide), if_pos rfl, if_neg (by decide), bvd, if_neg (by decide)]
theorem fx_pump (h : RR b c F G FM GM) (M : jF) {k : Nat} (hk : k < cn F 23) : (∃ v, okX11_pump F G M (nI k) 1 ∧ gX11_pump F G M (nI k) 1 = (0, v) ∧ ¬ v < 0) ∧ ∃ v, okX11_pump F G M (nI k) 2 ∧ gX11_pump F G M (nI k) 2 = (0, v) ∧ ¬ v < 0 := by
  have hd := h.1.2.1.2.1 k
  obtain ⟨⟨a1, a2⟩, a3, a4⟩ := gx_pump h M hk
  refine ⟨⟨_, a1, a2, ?_⟩, _, a3, a4, ?_⟩
  · have := hd.2.2.1.1
    rw [i32lt, show (0 : Int32).toInt = 0 from rfl]; omega
  · have := hd.2.2.2.1.1
    rw [i32lt, show (0 : Int32).toInt = 0 from rfl]; omega
theorem gx_crew (h : RR b c F G FM GM) (M : jF) {k : Nat} (hk : k < 3) : (okX11_crew F G M (nI k) 1 ∧ gX11_crew F G M (nI k) 1 = (0, F 50 k)) ∧ okX11_crew F G M (nI k) 2 ∧ gX11_crew F G M (nI k) 2 = (0, F 64 k) := by
  have e1 := (cr_y F G hk).1
  refine ⟨⟨(rd_crew h M (nI k) 1).1, ?_⟩, (rd_crew h M (nI k) 2).1, ?_⟩
  · unfold gX11_crew
    rw [e1, om_s, bvd, nr_y (by decide) (by decide), if_pos rfl, if_neg (by decide), bvd, if_pos rfl]
  · unfold gX11_crew
    rw [e1, om_s, bvd, nr_y (by decide) (by decide), if_pos rfl, if_neg (by decide), bvd, if_neg (by decide)]
theorem fx_crew (h : RR b c F G FM GM) (M : jF) {k : Nat} (hk : k < 3) : (∃ v, okX11_crew F G M (nI k) 1 ∧ gX11_crew F G M (nI k) 1 = (0, v) ∧ ¬ v < 0) ∧ ∃ v, okX11_crew F G M (nI k) 2 ∧ gX11_crew F G M (nI k) 2 = (0, v) ∧ ¬ nI (cn F 32) ≤ v := by
  have hd := h.1.2.2.1.2.1 k hk
  have h32 := h.1.1.1.1.2.2.2.2
  obtain ⟨⟨a1, a2⟩, a3, a4⟩ := gx_crew h M hk
  refine ⟨⟨_, a1, a2, ?_⟩, _, a3, a4, ?_⟩
  · have := hd.2.1.1
    rw [i32lt, show (0 : Int32).toInt = 0 from rfl]; omega
  · rw [i32le, nI_toInt (by omega)]
    rcases hd.2.2 with e | ⟨j, hj, e⟩
    · rw [e, show (-1 : Int32).toInt = -1 from rfl]; omega
    · rw [e, nI_toInt (by omega)]; omega
theorem gx_isOpen (h : RR b c F G FM GM) (M : jF) {k : Nat} (hk : k < cn F 17) : okX11_isOpen F G M (nI k) ∧ gX11_isOpen F G M (nI k) = (0, F 22 k) ∧ jb (F 22 k) := by
  refine ⟨(rd_isOpen h M (nI k)).1, ?_, (h.1.2.1.1 k).2.1⟩
  unfold gX11_isOpen
  rw [(gt_y G h.1.1.1 h.2.1.1 hk).1, om_s]
end FX
