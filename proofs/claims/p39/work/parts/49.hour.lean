-- rains of an hour
def mvp (e : Nat) (G : jG) (j : Nat) (x : Int64) : jG := u2 (u2 G 14 j (G 14 j + x)) 56 e (u2 G 14 j (G 14 j + x) 56 e + x)
theorem ct_1 (F : jF) (G : jG) (x : Int64) : gX10_count F G 1 x = (F, u2 G 56 1 (G 56 1 + x)) := by
  unfold gX10_count
  rw [if_neg (show ¬ (1 : Int32) < 0 by decide), if_neg (show ¬ (4 : Int32) ≤ 1 by decide)]
  simp only [bvd]
  rfl
theorem ct_0 (F : jF) (G : jG) (x : Int64) : gX10_count F G 0 x = (F, u2 G 56 0 (G 56 0 + x)) := by
  unfold gX10_count
  rw [if_neg (show ¬ (0 : Int32) < 0 by decide), if_neg (show ¬ (4 : Int32) ≤ 0 by decide)]
  simp only [bvd]
  rfl
theorem br_1 {F : jF} (G : jG) {j : Nat} (hn : cn F 8 ≤ 8) (hj : j < cn F 8) (p : Int32) : gX10_bring F G (nI j) p 1 = (mvp 1 G j p.toInt64 14 j, (F, mvp 1 G j p.toInt64)) := by
  unfold gX10_bring
  rw [ba_in G hn hj]
  simp only [bvd, om_s, bsd, ct_1]
  rfl
theorem br_0 {F : jF} (G : jG) {j : Nat} (hn : cn F 8 ≤ 8) (hj : j < cn F 8) (p : Int32) : gX10_bring F G (nI j) p 0 = (mvp 0 G j p.toInt64 14 j, (F, mvp 0 G j p.toInt64)) := by
  unfold gX10_bring
  rw [ba_in G hn hj]
  simp only [bvd, om_s, bsd, ct_0]
  rfl
theorem bg_ok {F : jF} {G : jG} (p q r : Int32) (hr : r = 0 ∨ r = 1) : okX10_bring F G p q r := by
  unfold okX10_bring
  refine ⟨ba_ok p, ?_⟩
  rw [bvd]
  cases hb : gX10_basinAt F G p with
  | none => rw [om_n]; trivial
  | some k =>
    rw [om_s]
    refine ⟨ba_lt hb, ba_lt hb, ?_⟩
    rw [bvd]
    refine ⟨ct_ok, ?_⟩
    rw [bsd]
    rcases hr with rfl | rfl
    · rw [ct_0]; exact ba_lt hb
    · rw [ct_1]; exact ba_lt hb
theorem mvp_ag {G GM : jG} (h : ag shG G GM) (e j : Nat) (x : Int64) : ag shG (mvp e G j x) (mvp e GM j x) := by
  have e14 := h.at 14 (by decide)
  have h1 := ag_u2 h 14 j (v := G 14 j + x) (v' := GM 14 j + x) (by rw [e14])
  exact ag_u2 h1 56 e (by rw [h1.at 56 (by decide)])
theorem mvp_k (e : Nat) (G : jG) (j : Nat) (x : Int64) {k : Nat} (h : k ≠ 14) (h2 : k ≠ 56) : mvp e G j x k = G k := by unfold mvp; rw [u2_other _ h2, u2_other _ h]
theorem mvp_14 (e : Nat) (G : jG) (j : Nat) (x : Int64) (k : Nat) : mvp e G j x 14 k = if k = j then G 14 j + x else G 14 k := by
  unfold mvp
  rw [u2_other _ (by decide : (14 : Nat) ≠ 56), u2_same]
theorem RR_pour {b d : Int} {c : Nat} {F FM : jF} {G GM : jG} (h : RR b c F G FM GM) (hb : b + d ≤ 1720000000) {j : Nat} (hj : j < cn F 8) (e : Nat) {x : Int64} (hx0 : 0 ≤ x.toInt) (hx : x.toInt ≤ d) : RR (b + d) c F (mvp e G j x) FM (mvp e GM j x) := by
  have hE := h.1.1
  have hL := hE.2.2.1
  have hb1 := hL.1.1
  have hb2 := hL.1.2.1
  refine RR_flow h (fun k h1 h2 => ⟨mvp_k e G j x h1 h2, mvp_k e GM j x h1 h2⟩) (fun i hi => by rw [mvp_14, if_neg (by omega)]) ⟨⟨hL.1.1, by omega, hb⟩, fun i hi => ?_⟩ (mvp_ag h.2.1.2 e j x)
  obtain ⟨l1, l2⟩ := hL.2 i hi
  rw [mvp_14]
  by_cases c1 : i = j
  · subst c1
    have hw := (lev_b hE.1 hE.2.1 hL hi).1
    have ha := ((hE.2.1 i).1 hi).1
    have hs := hL.1.2.2
    have e1 : (G 14 i + x).toInt = (G 14 i).toInt + x.toInt := i64a (by omega) (by omega)
    have h1 := lv_up (w := (G 14 i).toInt) (x := x.toInt) (a := (F 9 i).toInt) (d := 100 * d) (by omega) (by
      have : 100 * d * 1 ≤ 100 * d * (F 9 i).toInt := Int.mul_le_mul_of_nonneg_left ha.1 (by omega)
      omega)
    rw [if_pos rfl]
    unfold lev at *
    rw [mvp_14, if_pos rfl, e1]
    exact ⟨by omega, by omega⟩
  · rw [if_neg c1]
    unfold lev at *
    rw [mvp_14, if_neg c1]
    exact ⟨l1, by omega⟩
theorem RR_mono {b d : Int} {c : Nat} {F FM : jF} {G GM : jG} (h : RR b c F G FM GM) (hb : b + d ≤ 1720000000) (hd : 0 ≤ d) : RR (b + d) c F G FM GM := by
  have hL := h.1.1.2.2.1
  have hb2 := hL.1.2.1
  exact RR_flow h (fun _ _ _ => ⟨rfl, rfl⟩) (fun _ _ => rfl) ⟨⟨hL.1.1, by omega, hb⟩, fun i hi => ⟨(hL.2 i hi).1, by have := (hL.2 i hi).2; omega⟩⟩ h.2.1.2
/-- one rain -/
def rnS (F : jF) (i : Nat) (G : jG) : jG := if gX12_in (F 0 0 - F 46 i) 0 (F 47 i - 1) = 0 then G else mvp 1 G (F 45 i).toNatClampNeg (F 48 i).toInt64
def rnC (F : jF) (i : Nat) (G : jG) : jG := if i < cn F 44 then rnS F i G else G
theorem ga_m {F : jF} (G : jG) (hN : wN F) (hR : wR F) {i : Nat} (hi : i < cn F 44) : (gX9_goesAt F G i (F 0 0) = 0 ↔ gX12_in (F 0 0 - F 46 i) 0 (F 47 i - 1) = 0) := by
  obtain ⟨-, ⟨b0, b1⟩, ⟨l0, l1⟩, -⟩ := hR i hi
  have hh := hN.hr
  have y0 : (0 : Int32).toInt = 0 := rfl
  have y1 : (1 : Int32).toInt = 1 := rfl
  have e1 : (F 0 0 - F 46 i).toInt = (F 0 0).toInt - (F 46 i).toInt := i32s (by omega) (by omega)
  have e2 : (F 47 i - 1).toInt = (F 47 i).toInt - 1 := by rw [i32s (by rw [y1]; omega) (by rw [y1]; omega), y1]
  rw [in_z, i32lt, i32lt, e1, e2, y0]
  unfold gX9_goesAt
  by_cases c1 : F 0 0 < F 46 i
  · rw [if_pos c1]; rw [i32lt] at c1
    exact ⟨fun _ => Or.inl (by omega), fun _ => rfl⟩
  · rw [if_neg c1]; rw [i32lt] at c1
    by_cases c2 : F 47 i ≤ F 0 0 - F 46 i
    · rw [if_pos c2]; rw [i32le, e1] at c2
      exact ⟨fun _ => Or.inr (by omega), fun _ => rfl⟩
    · rw [if_neg c2]; rw [i32le, e1] at c2
      exact ⟨fun h => absurd h (by decide), fun h => by rcases h with h | h <;> omega⟩
set_option maxHeartbeats 4000000 in
theorem rain_m {b : Int} {c : Nat} {F FM : jF} {G GM : jG} (h : RR b c F G FM GM) (hb : b + 119988 ≤ 1720000000) : ∃ G1 GM1, RR (b + 119988) c F G1 FM GM1 ∧ gX10_fallRain F G = (F, G1) ∧ gX12_rains FM GM = (FM, GM1) ∧ okX10_fallRain F G ∧ okX12_rains FM GM := by
  have hN := h.1.1.1
  have hn8 := hN.1.1.2
  have h44 := hN.2.2.1
  have hR := h.2.1.1
  have hw := h.1.2.2.1.1
  have r0 := hR.at 0 (by decide)
  have r44 := hR.at 44 (by decide)
  have r45 := hR.at 45 (by decide)
  have r46 := hR.at 46 (by decide)
  have r47 := hR.at 47 (by decide)
  have r48 := hR.at 48 (by decide)
  obtain ⟨N, hNd⟩ : ∃ N, N = cn F 44 := ⟨_, rfl⟩
  have hN12 : N ≤ 12 := by rw [hNd]; exact h44.2
  let P : Nat → jG → jG → Prop := fun i G1 GM1 => RR (b + 9999 * (i : Int)) c F G1 FM GM1
  have hP0 : P 0 G GM := by show RR (b + 9999 * ((0 : Nat) : Int)) c F G FM GM; rw [show b + 9999 * ((0 : Nat) : Int) = b by omega]; exact h
  have hstep : ∀ i G1 GM1, i < N → P i G1 GM1 → P (i + 1) (rnS F i G1) (rnS F i GM1) := fun i G1 GM1 hi hp => by
    have hp : RR (b + 9999 * (i : Int)) c F G1 FM GM1 := hp
    show RR (b + 9999 * ((i + 1 : Nat) : Int)) c F (rnS F i G1) FM (rnS F i GM1)
    rw [show b + 9999 * ((i + 1 : Nat) : Int) = b + 9999 * (i : Int) + 9999 by omega]
    unfold rnS
    by_cases c1 : gX12_in (F 0 0 - F 46 i) 0 (F 47 i - 1) = 0
    · rw [if_pos c1, if_pos c1]; exact RR_mono hp (by omega) (by omega)
    · rw [if_neg c1, if_neg c1]
      obtain ⟨⟨j, hj, ej⟩, -, -, ⟨x0, x1⟩⟩ := hw i (by omega)
      rw [ej, nI_clamp (by omega)]
      exact RR_pour hp (by omega) hj 1 (by rw [i3264]; omega) (by rw [i3264]; omega)
  have hend := itrR (rnS F) (rnS F) N P hstep N 0 G GM (by omega) hP0
  have hend : RR (b + 9999 * (N : Int)) c F (itr (rnS F) 0 N G) FM (itr (rnS F) 0 N GM) := hend
  have hcut : itr (rnC F) 0 12 G = itr (rnC F) 0 N G := itr_cut _ 12 N hN12 _ (fun j hj => by unfold rnC; rw [if_neg (by omega)])
  have hsame : itr (rnC F) 0 N G = itr (rnS F) 0 N G := itrR (rnC F) (rnS F) N (fun _ x y => x = y) (fun i x y hi e => by unfold rnC; rw [if_pos (by omega), e]) N 0 G G (by omega) rfl
  have hvi : ∀ i, i < 12 → vp_in (nI i) 12 := fun i hi => nI_vin hi (by omega)
  refine ⟨itr (rnS F) 0 N G, itr (rnS F) 0 N GM, ?_, ?_, ?_, ?_, ?_⟩
  · have := RR_mono hend (d := 9999 * (12 - (N : Int))) (by omega) (by omega)
    rwa [show b + 9999 * (N : Int) + 9999 * (12 - (N : Int)) = b + 119988 by omega] at this
  · unfold gX10_fallRain
    have hl := lpE (fun n i (G : jG) => gX10_fallRain_L2 (fun (_ : Int32) (F26 : jF) (G27 : jG) => (F26, G27)) n i F G) (fun _ G => (F, G)) (rnC F) 12 (fun _ _ => True) (fun n i G hi _ => by
      show gX10_fallRain_L2 _ (n + 1) (nI i) F G = _
      rw [gX10_fallRain_L2, n12, if_neg (nI_ge hi (by omega)), ← nI_1]
      unfold rnC rnS
      simp only [bvd, nI_clamp (show i < 2 ^ 31 by omega)]
      by_cases hc : i < cn F 44
      · rw [op_in hc, if_pos hc]
        simp only [om_s, brd]
        have hg := ga_m G hN hw hc
        by_cases c1 : gX9_goesAt F G i (F 0 0) = 0
        · rw [if_pos c1, if_pos (hg.mp c1)]
        · rw [if_neg c1, if_neg (fun h => c1 (hg.mpr h))]
          obtain ⟨⟨j, hj, ej⟩, -⟩ := hw i hc
          rw [ej, br_1 G hn8 hj, nI_clamp (by omega)]
      · rw [op_no hc, if_neg hc]
        simp only [om_n]) (fun _ _ _ _ => trivial) (fun n G _ => by
      show gX10_fallRain_L2 _ (n + 1) (nI 12) F G = _
      rw [gX10_fallRain_L2, n12, if_pos (nI_le (Nat.le_refl _) (by omega))]) 12 0 80 G (by omega) (by omega) trivial
    rw [nI_0, hcut, hsame] at hl
    exact hl
  · unfold gX12_rains
    have hl := lpE (fun n i (G : jG) => gX12_rains_L2 (fun (_ : Int32) (F16 : jF) (G17 : jG) => (F16, G17)) n i FM G) (fun _ G => (FM, G)) (rnS F) N (fun _ _ => True) (fun n i G hi _ => by
      show gX12_rains_L2 _ (n + 1) (nI i) FM G = _
      rw [gX12_rains_L2, r44, h44.1, ← hNd, if_neg (nI_ge hi (by omega)), ← nI_1]
      unfold rnS
      simp only [bvd, nI_clamp (show i < 2 ^ 31 by omega), r0, r45, r46, r47, r48]
      split
      · rfl
      · rfl) (fun _ _ _ _ => trivial) (fun n G _ => by
      show gX12_rains_L2 _ (n + 1) (nI N) FM G = _
      rw [gX12_rains_L2, r44, h44.1, ← hNd, if_pos (nI_le (Nat.le_refl _) (by omega))]) N 0 80 GM (by omega) (by omega) trivial
    rw [nI_0] at hl
    exact hl
  · unfold okX10_fallRain
    have hl := lpO (fun n i (G : jG) => okX10_fallRain_L2 (fun _ _ _ => True) n i F G) (fun _ _ => True) (rnC F) 12 (fun _ _ => True) (fun n i G hi _ hk => by
      show okX10_fallRain_L2 _ (n + 1) (nI i) F G
      rw [okX10_fallRain_L2, n12]
      rw [← nI_1] at hk
      unfold rnC rnS at hk
      refine ⟨fun e => absurd e (nI_ge hi (by omega)), fun _ => ⟨hvi i hi, ?_⟩⟩
      simp only [bvd, nI_clamp (show i < 2 ^ 31 by omega)]
      by_cases hc : i < cn F 44
      · rw [if_pos hc] at hk
        rw [op_in hc]
        simp only [om_s, brd]
        have hg := ga_m G hN hw hc
        have hgo : okX9_goesAt F G i (F 0 0) := by
          unfold okX9_goesAt
          first | exact ⟨hc, fun _ => trivial, fun _ => ⟨hc, hc⟩⟩ | exact ⟨hc, fun _ => trivial, fun _ => ⟨hc, hc, hc⟩⟩
        refine ⟨hvi i hi, hc, hgo, fun c1 => ?_, fun c1 => ?_⟩
        · rw [if_pos (hg.mp c1)] at hk; exact hk
        · rw [if_neg (fun h => c1 (hg.mpr h))] at hk
          obtain ⟨⟨j, hj, ej⟩, -⟩ := hw i hc
          rw [ej, nI_clamp (show j < 2 ^ 31 by omega)] at hk
          have e2 := br_1 G hn8 hj (F 48 i)
          rw [← ej] at e2
          rw [e2]
          have hkk := hk
          first | exact ⟨hvi i hi, hvi i hi, hc, hc, bg_ok _ _ _ (Or.inr rfl), hkk⟩ | exact ⟨hvi i hi, hc, hvi i hi, hc, bg_ok _ _ _ (Or.inr rfl), hkk⟩
      · rw [if_neg hc] at hk
        rw [op_no hc]
        simp only [om_n]; exact hk) (fun _ _ _ _ => trivial) (fun n G _ _ => by
      show okX10_fallRain_L2 _ (n + 1) (nI 12) F G
      rw [okX10_fallRain_L2, n12]
      exact ⟨fun _ => trivial, fun e => absurd (nI_le (Nat.le_refl _) (by omega)) e⟩) 12 0 80 G (by omega) (by omega) trivial trivial
    rw [nI_0] at hl
    exact hl
  · unfold okX12_rains
    have hl := lpO (fun n i (G : jG) => okX12_rains_L2 (fun _ _ _ => True) n i FM G) (fun _ _ => True) (rnS F) N (fun _ _ => True) (fun n i G hi _ hk => by
      show okX12_rains_L2 _ (n + 1) (nI i) FM G
      rw [okX12_rains_L2, r44, h44.1, ← hNd]
      rw [← nI_1] at hk
      unfold rnS at hk
      have hv := hvi i (by omega)
      obtain ⟨⟨j, hj, ej⟩, -⟩ := hw i (by omega)
      have hvj : vp_in (F 45 i) 8 := by rw [ej]; exact nI_vin (by omega) (by omega)
      refine ⟨fun e => absurd e (nI_ge hi (by omega)), fun _ => ⟨hv, hv, ?_⟩⟩
      simp only [bvd, nI_clamp (show i < 2 ^ 31 by omega), r0, r45, r46, r47, r48]
      refine ⟨fun c1 => ?_, fun c1 => ⟨hv, hvj, hv, hvj, hv, ?_⟩⟩
      · rw [if_pos c1] at hk; exact hk
      · rw [if_neg c1] at hk; exact hk) (fun _ _ _ _ => trivial) (fun n G _ _ => by
      show okX12_rains_L2 _ (n + 1) (nI N) FM G
      rw [okX12_rains_L2, r44, h44.1, ← hNd]
      exact ⟨fun _ => trivial, fun e => absurd (nI_le (Nat.le_refl _) (by omega)) e⟩) N 0 80 GM (by omega) (by omega) trivial trivial
    rw [nI_0] at hl
    exact hl
