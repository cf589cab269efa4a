-- the sum of all, and the sum anew
theorem itr_eq {σ : Type} (st st' : Nat → σ → σ) (N : Nat) (h : ∀ i S, i < N → st i S = st' i S) (S : σ) : itr st 0 N S = itr st' 0 N S := itrR st st' N (fun _ S T => S = T) (fun i S T hi e => by rw [e, h i T hi]) N 0 S S (by omega) rfl
def dgB (F : jF) (G : jG) (i : Nat) (v : Int64) : Int64 := if i < cn F 8 then ((v * 31 + G 14 i) * 31 + gX0_height F G i) * 31 + G 15 i else v
def dgD (F : jF) (G : jG) (i : Nat) (v : Int64) : Int64 := if i < cn F 32 then gX3_sumDyke F G i v else v
def dgP (F : jF) (G : jG) (i : Nat) (v : Int64) : Int64 := if i < cn F 23 then gX7_sumPump F G i v else v
def mgB (F : jF) (G : jG) (i : Nat) (v : Int64) : Int64 := 31 * (31 * (31 * v + G 14 i) + gX12_levelOf F G (nI i)) + G 15 i
def mgD (F : jF) (i : Nat) (v : Int64) : Int64 := 31 * (31 * (31 * v + (F 35 i).toInt64) + (F 38 i).toInt64) + (F 39 i).toInt64
def mgP (F : jF) (i : Nat) (v : Int64) : Int64 := 31 * (31 * v + (F 30 i).toInt64) + (F 31 i).toInt64
theorem dg_b {F : jF} (G : jG) (h8 : cn F 8 ≤ 8) (v : Int64) : gX10_sumBasins F G v = itr (dgB F G) 0 (cn F 8) v := by
  have h := lpE (fun n i (v : Int64) => gX10_sumBasins_L5 F G (fun (_ : Int32) (y : Int64) => y) n i v) (fun _ v => v) (dgB F G) 8 (fun _ _ => True) (fun n i v hi _ => by
    show gX10_sumBasins_L5 F G (fun (_ : Int32) (y : Int64) => y) (n + 1) (nI i) v = _
    rw [gX10_sumBasins_L5]
    unfold dgB
    rw [n8, if_neg (nI_ge hi (by omega)), ← nI_1]
    simp only [bvd, nI_clamp (show i < 2 ^ 31 by omega)]
    by_cases hc : i < cn F 8
    · simp only [op_in hc, om_s, if_pos hc]
    · simp only [op_no hc, om_n, if_neg hc]) (fun _ _ _ _ => trivial) (fun n v _ => by
    show gX10_sumBasins_L5 F G (fun (_ : Int32) (y : Int64) => y) (n + 1) (nI 8) v = _
    rw [gX10_sumBasins_L5, n8, if_pos (nI_le (Nat.le_refl _) (by omega))]) 8 0 80 v (by omega) (by omega) trivial
  unfold gX10_sumBasins
  rw [nI_0] at h
  rw [h]
  exact itr_cut _ 8 _ h8 _ (fun j hj => by unfold dgB; rw [if_neg (by omega)])
theorem dg_bo {F : jF} (G : jG) (v : Int64) : okX10_sumBasins F G v := by
  have h := lpO (fun n i (v : Int64) => okX10_sumBasins_L5 F G (fun (_ : Int32) (_ : Int64) => True) n i v) (fun _ _ => True) (dgB F G) 8 (fun _ _ => True) (fun n i v hi _ hk => by
    show okX10_sumBasins_L5 F G (fun (_ : Int32) (_ : Int64) => True) (n + 1) (nI i) v
    have hv : vp_in (nI i) 8 := nI_vin hi (by omega)
    rw [okX10_sumBasins_L5, n8]
    refine ⟨fun h => absurd h (nI_ge hi (by omega)), fun _ => ⟨hv, ?_⟩⟩
    unfold dgB at hk
    rw [← nI_1] at hk
    rw [bvd, nI_clamp (by omega)]
    by_cases hc : i < cn F 8
    · rw [if_pos hc] at hk
      rw [op_in hc, om_s]
      refine ⟨hv, ?_⟩
      rw [bvd, om_s]
      refine ⟨hc, ?_⟩
      rw [bvd]
      refine ⟨hv, ?_⟩
      rw [bvd, om_s]
      refine ⟨hc, ht_ok hc, ?_⟩
      rw [bvd, bvd]
      refine ⟨hv, ?_⟩
      rw [bvd, om_s]
      refine ⟨hc, ?_⟩
      rw [bvd]; exact hk
    · rw [if_neg hc] at hk
      rw [op_no hc, om_n]; exact hk) (fun _ _ _ _ => trivial) (fun n v _ hk => by
    show okX10_sumBasins_L5 F G (fun (_ : Int32) (_ : Int64) => True) (n + 1) (nI 8) v
    rw [okX10_sumBasins_L5, n8]
    exact ⟨fun _ => hk, fun h => absurd (nI_le (Nat.le_refl _) (by omega)) h⟩) 8 0 80 v (by omega) (by omega) trivial trivial
  rw [nI_0] at h
  exact h
theorem dg_d {F : jF} (G : jG) (h8 : cn F 32 ≤ 8) (K : Int32 → Int64 → Int64) (v : Int64) : gX5_sumOfAll_L45 F G K 80 0 v = K (nI 8) (itr (dgD F G) 0 (cn F 32) v) := by
  have h := lpE (fun n i (v : Int64) => gX5_sumOfAll_L45 F G K n i v) K (dgD F G) 8 (fun _ _ => True) (fun n i v hi _ => by
    show gX5_sumOfAll_L45 F G K (n + 1) (nI i) v = _
    rw [gX5_sumOfAll_L45]
    unfold dgD
    rw [n8, if_neg (nI_ge hi (by omega)), ← nI_1]
    simp only [bvd, nI_clamp (show i < 2 ^ 31 by omega)]
    by_cases hc : i < cn F 32
    · simp only [op_in hc, om_s, if_pos hc]
    · simp only [op_no hc, om_n, if_neg hc]) (fun _ _ _ _ => trivial) (fun n v _ => by
    show gX5_sumOfAll_L45 F G K (n + 1) (nI 8) v = _
    rw [gX5_sumOfAll_L45, n8, if_pos (nI_le (Nat.le_refl _) (by omega))]) 8 0 80 v (by omega) (by omega) trivial
  rw [nI_0] at h
  rw [h]
  exact congrArg (K (nI 8)) (itr_cut _ 8 _ h8 _ (fun j hj => by unfold dgD; rw [if_neg (by omega)]))
theorem dg_do {F : jF} (G : jG) (K : Int32 → Int64 → Prop) (hK : ∀ i v, K i v) (v : Int64) : okX5_sumOfAll_L45 F G K 80 0 v := by
  have h := lpO (fun n i (v : Int64) => okX5_sumOfAll_L45 F G K n i v) K (dgD F G) 8 (fun _ _ => True) (fun n i v hi _ hk => by
    show okX5_sumOfAll_L45 F G K (n + 1) (nI i) v
    have hv : vp_in (nI i) 8 := nI_vin hi (by omega)
    rw [okX5_sumOfAll_L45, n8]
    refine ⟨fun h => absurd h (nI_ge hi (by omega)), fun _ => ⟨hv, ?_⟩⟩
    unfold dgD at hk
    rw [← nI_1] at hk
    rw [bvd, nI_clamp (by omega)]
    by_cases hc : i < cn F 32
    · rw [if_pos hc] at hk
      rw [op_in hc, om_s]
      refine ⟨hv, ?_⟩
      rw [bvd, om_s]
      refine ⟨hc, ⟨hc, hc, hc⟩, ?_⟩
      rw [bvd]; exact hk
    · rw [if_neg hc] at hk
      rw [op_no hc, om_n]; exact hk) (fun _ _ _ _ => trivial) (fun n v _ hk => by
    show okX5_sumOfAll_L45 F G K (n + 1) (nI 8) v
    rw [okX5_sumOfAll_L45, n8]
    exact ⟨fun _ => hk, fun h => absurd (nI_le (Nat.le_refl _) (by omega)) h⟩) 8 0 80 v (by omega) (by omega) trivial (hK _ _)
  rw [nI_0] at h
  exact h
theorem dg_p {F : jF} (G : jG) (h8 : cn F 23 ≤ 8) (K : Int32 → Int64 → Int64) (v : Int64) : gX5_sumOfAll_L82 F G K 80 0 v = K (nI 8) (itr (dgP F G) 0 (cn F 23) v) := by
  have h := lpE (fun n i (v : Int64) => gX5_sumOfAll_L82 F G K n i v) K (dgP F G) 8 (fun _ _ => True) (fun n i v hi _ => by
    show gX5_sumOfAll_L82 F G K (n + 1) (nI i) v = _
    rw [gX5_sumOfAll_L82]
    unfold dgP
    rw [n8, if_neg (nI_ge hi (by omega)), ← nI_1]
    simp only [bvd, nI_clamp (show i < 2 ^ 31 by omega)]
    by_cases hc : i < cn F 23
    · simp only [op_in hc, om_s, if_pos hc]
    · simp only [op_no hc, om_n, if_neg hc]) (fun _ _ _ _ => trivial) (fun n v _ => by
    show gX5_sumOfAll_L82 F G K (n + 1) (nI 8) v = _
    rw [gX5_sumOfAll_L82, n8, if_pos (nI_le (Nat.le_refl _) (by omega))]) 8 0 80 v (by omega) (by omega) trivial
  rw [nI_0] at h
  rw [h]
  exact congrArg (K (nI 8)) (itr_cut _ 8 _ h8 _ (fun j hj => by unfold dgP; rw [if_neg (by omega)]))
theorem dg_po {F : jF} (G : jG) (K : Int32 → Int64 → Prop) (hK : ∀ i v, K i v) (v : Int64) : okX5_sumOfAll_L82 F G K 80 0 v := by
  have h := lpO (fun n i (v : Int64) => okX5_sumOfAll_L82 F G K n i v) K (dgP F G) 8 (fun _ _ => True) (fun n i v hi _ hk => by
    show okX5_sumOfAll_L82 F G K (n + 1) (nI i) v
    have hv : vp_in (nI i) 8 := nI_vin hi (by omega)
    rw [okX5_sumOfAll_L82, n8]
    refine ⟨fun h => absurd h (nI_ge hi (by omega)), fun _ => ⟨hv, ?_⟩⟩
    unfold dgP at hk
    rw [← nI_1] at hk
    rw [bvd, nI_clamp (by omega)]
    by_cases hc : i < cn F 23
    · rw [if_pos hc] at hk
      rw [op_in hc, om_s]
      refine ⟨hv, ?_⟩
      rw [bvd, om_s]
      refine ⟨hc, ⟨hc, hc⟩, ?_⟩
      rw [bvd]; exact hk
    · rw [if_neg hc] at hk
      rw [op_no hc, om_n]; exact hk) (fun _ _ _ _ => trivial) (fun n v _ hk => by
    show okX5_sumOfAll_L82 F G K (n + 1) (nI 8) v
    rw [okX5_sumOfAll_L82, n8]
    exact ⟨fun _ => hk, fun h => absurd (nI_le (Nat.le_refl _) (by omega)) h⟩) 8 0 80 v (by omega) (by omega) trivial (hK _ _)
  rw [nI_0] at h
  exact h
theorem mg_b {FM : jF} (GM : jG) {N : Nat} (hN : FM 8 0 = nI N) (h8 : N ≤ 8) (K : Int32 → Int64 → Int64 × jS) (v : Int64) : gX12_digest_L34 FM GM K 80 0 v = K (nI N) (itr (mgB FM GM) 0 N v) := by
  have h := lpE (fun n i (v : Int64) => gX12_digest_L34 FM GM K n i v) K (mgB FM GM) N (fun _ _ => True) (fun n i v hi _ => by
    show gX12_digest_L34 FM GM K (n + 1) (nI i) v = _
    rw [gX12_digest_L34]
    unfold mgB
    rw [hN, if_neg (nI_ge hi (by omega)), ← nI_1]
    simp only [bvd, nI_clamp (show i < 2 ^ 31 by omega)]) (fun _ _ _ _ => trivial) (fun n v _ => by
    show gX12_digest_L34 FM GM K (n + 1) (nI N) v = _
    rw [gX12_digest_L34, hN, if_pos (nI_le (Nat.le_refl _) (by omega))]) N 0 80 v (by omega) (by omega) trivial
  rw [nI_0] at h
  exact h
theorem mg_bo {FM : jF} (GM : jG) {N : Nat} (hN : FM 8 0 = nI N) (h8 : N ≤ 8) (hl : ∀ i, i < N → okX12_levelOf FM GM (nI i)) (K : Int32 → Int64 → Prop) (hK : ∀ i v, K i v) (v : Int64) : okX12_digest_L34 FM GM K 80 0 v := by
  have h := lpO (fun n i (v : Int64) => okX12_digest_L34 FM GM K n i v) K (mgB FM GM) N (fun _ _ => True) (fun n i v hi _ hk => by
    show okX12_digest_L34 FM GM K (n + 1) (nI i) v
    have hv : vp_in (nI i) 8 := nI_vin (by omega) (by omega)
    rw [okX12_digest_L34, hN]
    refine ⟨fun h => absurd h (nI_ge hi (by omega)), fun _ => ⟨hv, ?_⟩⟩
    unfold mgB at hk
    rw [← nI_1] at hk
    rw [bvd, nI_clamp (by omega)]
    refine ⟨hl i hi, ?_⟩
    rw [bvd, bvd]
    refine ⟨hv, ?_⟩
    rw [bvd]; exact hk) (fun _ _ _ _ => trivial) (fun n v _ hk => by
    show okX12_digest_L34 FM GM K (n + 1) (nI N) v
    rw [okX12_digest_L34, hN]
    exact ⟨fun _ => hk, fun h => absurd (nI_le (Nat.le_refl _) (by omega)) h⟩) N 0 80 v (by omega) (by omega) trivial (hK _ _)
  rw [nI_0] at h
  exact h
theorem mg_d {FM : jF} (GM : jG) {N : Nat} (hN : FM 32 0 = nI N) (h8 : N ≤ 8) (K : Int32 → Int64 → Int64 × jS) (v : Int64) : gX12_digest_L88 FM GM K 80 0 v = K (nI N) (itr (mgD FM) 0 N v) := by
  have h := lpE (fun n i (v : Int64) => gX12_digest_L88 FM GM K n i v) K (mgD FM) N (fun _ _ => True) (fun n i v hi _ => by
    show gX12_digest_L88 FM GM K (n + 1) (nI i) v = _
    rw [gX12_digest_L88]
    unfold mgD
    rw [hN, if_neg (nI_ge hi (by omega)), ← nI_1]
    simp only [bvd, nI_clamp (show i < 2 ^ 31 by omega)]) (fun _ _ _ _ => trivial) (fun n v _ => by
    show gX12_digest_L88 FM GM K (n + 1) (nI N) v = _
    rw [gX12_digest_L88, hN, if_pos (nI_le (Nat.le_refl _) (by omega))]) N 0 80 v (by omega) (by omega) trivial
  rw [nI_0] at h
  exact h
theorem mg_do {FM : jF} (GM : jG) {N : Nat} (hN : FM 32 0 = nI N) (h8 : N ≤ 8) (K : Int32 → Int64 → Prop) (hK : ∀ i v, K i v) (v : Int64) : okX12_digest_L88 FM GM K 80 0 v := by
  have h := lpO (fun n i (v : Int64) => okX12_digest_L88 FM GM K n i v) K (mgD FM) N (fun _ _ => True) (fun n i v hi _ hk => by
    show okX12_digest_L88 FM GM K (n + 1) (nI i) v
    have hv : vp_in (nI i) 8 := nI_vin (by omega) (by omega)
    rw [okX12_digest_L88, hN]
    refine ⟨fun h => absurd h (nI_ge hi (by omega)), fun _ => ⟨hv, ?_⟩⟩
    unfold mgD at hk
    rw [← nI_1] at hk
    rw [bvd, nI_clamp (by omega)]
    refine ⟨hv, ?_⟩
    rw [bvd]
    refine ⟨hv, ?_⟩
    rw [bvd]; exact hk) (fun _ _ _ _ => trivial) (fun n v _ hk => by
    show okX12_digest_L88 FM GM K (n + 1) (nI N) v
    rw [okX12_digest_L88, hN]
    exact ⟨fun _ => hk, fun h => absurd (nI_le (Nat.le_refl _) (by omega)) h⟩) N 0 80 v (by omega) (by omega) trivial (hK _ _)
  rw [nI_0] at h
  exact h
theorem mg_p {FM : jF} (GM : jG) {N : Nat} (hN : FM 23 0 = nI N) (h8 : N ≤ 8) (K : Int32 → Int64 → Int64 × jS) (v : Int64) : gX12_digest_L146 FM GM K 80 0 v = K (nI N) (itr (mgP FM) 0 N v) := by
  have h := lpE (fun n i (v : Int64) => gX12_digest_L146 FM GM K n i v) K (mgP FM) N (fun _ _ => True) (fun n i v hi _ => by
    show gX12_digest_L146 FM GM K (n + 1) (nI i) v = _
    rw [gX12_digest_L146]
    unfold mgP
    rw [hN, if_neg (nI_ge hi (by omega)), ← nI_1]
    simp only [bvd, nI_clamp (show i < 2 ^ 31 by omega)]) (fun _ _ _ _ => trivial) (fun n v _ => by
    show gX12_digest_L146 FM GM K (n + 1) (nI N) v = _
    rw [gX12_digest_L146, hN, if_pos (nI_le (Nat.le_refl _) (by omega))]) N 0 80 v (by omega) (by omega) trivial
  rw [nI_0] at h
  exact h
theorem mg_po {FM : jF} (GM : jG) {N : Nat} (hN : FM 23 0 = nI N) (h8 : N ≤ 8) (K : Int32 → Int64 → Prop) (hK : ∀ i v, K i v) (v : Int64) : okX12_digest_L146 FM GM K 80 0 v := by
  have h := lpO (fun n i (v : Int64) => okX12_digest_L146 FM GM K n i v) K (mgP FM) N (fun _ _ => True) (fun n i v hi _ hk => by
    show okX12_digest_L146 FM GM K (n + 1) (nI i) v
    have hv : vp_in (nI i) 8 := nI_vin (by omega) (by omega)
    rw [okX12_digest_L146, hN]
    refine ⟨fun h => absurd h (nI_ge hi (by omega)), fun _ => ⟨hv, ?_⟩⟩
    unfold mgP at hk
    rw [← nI_1] at hk
    rw [bvd, nI_clamp (by omega)]
    refine ⟨hv, ?_⟩
    rw [bvd]; exact hk) (fun _ _ _ _ => trivial) (fun n v _ hk => by
    show okX12_digest_L146 FM GM K (n + 1) (nI N) v
    rw [okX12_digest_L146, hN]
    exact ⟨fun _ => hk, fun h => absurd (nI_le (Nat.le_refl _) (by omega)) h⟩) N 0 80 v (by omega) (by omega) trivial (hK _ _)
  rw [nI_0] at h
  exact h
theorem rd_digest {b : Int} {c : Nat} {F FM : jF} {G GM : jG} (h : RR b c F G FM GM) (M : jF) : (okX5_sumOfAll F G ∧ okX11_digest F G M) ∧ okX12_digest FM GM ∧ ∃ x, gX5_sumOfAll F G = x ∧ gX11_digest F G M = (0, x) ∧ gX12_digest FM GM = (x, (u2 FM 60 0 0, GM)) ∧ okX12_digestAnew FM GM ∧ gX12_digestAnew FM GM = (x, (u2 FM 60 0 0, GM)) := by
  obtain ⟨⟨hE, hY⟩, ⟨hR, hG⟩, hX⟩ := h
  have hN := hE.1
  have hR0 := ag60 hR 0
  obtain ⟨F1, hF1⟩ : ∃ F1, F1 = u2 FM 60 0 0 := ⟨_, rfl⟩
  rw [← hF1] at hR0
  have h8 := hN.1.1
  have h23 := hN.1.2.2.1
  have h32 := hN.1.2.2.2
  have r8 : F1 8 0 = nI (cn F 8) := by rw [hR0.at 8 (by decide)]; exact h8.1
  have r23 : F1 23 0 = nI (cn F 23) := by rw [hR0.at 23 (by decide)]; exact h23.1
  have r32 : F1 32 0 = nI (cn F 32) := by rw [hR0.at 32 (by decide)]; exact h32.1
  have hs : okX5_sumOfAll F G := by
    unfold okX5_sumOfAll
    rw [bvd, bvd]
    refine ⟨dg_bo G _, ?_⟩
    rw [bvd]
    exact dg_do G _ (fun _ v => dg_po G _ (fun _ _ => trivial) v) _
  have hm : okX12_digest FM GM := by
    unfold okX12_digest
    rw [bvd, bvd, bvd, ← hF1]
    exact mg_bo GM r8 h8.2 (fun i hi => lom_ok hE hR0 (Or.inr (Or.inr ⟨i, hi, rfl⟩))) _ (fun _ v => mg_do GM r32 h32.2 _ (fun _ v => mg_po GM r23 h23.2 _ (fun _ _ => trivial) v) v) _
  have hv : gX12_digest FM GM = (gX5_sumOfAll F G, (F1, GM)) := by
    have eB : ∀ v, itr (dgB F G) 0 (cn F 8) v = itr (mgB F1 GM) 0 (cn F 8) v := fun v => itr_eq _ _ _ (fun i w hi => by
      unfold dgB mgB
      rw [if_pos hi, lo_m hE hR0 hG (Or.inr (Or.inr ⟨i, hi, rfl⟩)), ho_in G h8.2 hi, hG.at 14 (by decide), hG.at 15 (by decide)]
      simp only [Int64.mul_comm 31]) v
    have eD : ∀ v, itr (dgD F G) 0 (cn F 32) v = itr (mgD F1) 0 (cn F 32) v := fun v => itr_eq _ _ _ (fun i w hi => by
      unfold dgD mgD gX3_sumDyke
      have e38 : (F1 38 i).toInt64 = G 61 i := by rw [hF1, u2_other _ (by decide : 38 ≠ 60)]; exact hX.2.1 i
      rw [if_pos hi, e38, hR0.at 35 (by decide), hR0.at 39 (by decide)]
      simp only [Int64.mul_comm 31]) v
    have eP : ∀ v, itr (dgP F G) 0 (cn F 23) v = itr (mgP F1) 0 (cn F 23) v := fun v => itr_eq _ _ _ (fun i w hi => by
      unfold dgP mgP gX7_sumPump
      rw [if_pos hi, hR0.at 30 (by decide), hR0.at 31 (by decide)]
      simp only [Int64.mul_comm 31]) v
    unfold gX12_digest gX5_sumOfAll
    rw [bvd, bvd, bvd, ← hF1, mg_b GM r8 h8.2, mg_d GM r32 h32.2, mg_p GM r23 h23.2]
    rw [bvd, bvd, bvd, dg_b G h8.2, dg_d G h32.2, dg_p G h23.2, eB, eD, eP, hR0.at 0 (by decide), hX.1]
    simp only [Int64.mul_comm 31]
  refine ⟨⟨hs, hs⟩, hm, _, rfl, ?_, by rw [← hF1]; exact hv, hm, ?_⟩
  · unfold gX11_digest; rw [bvd]
  · unfold gX12_digestAnew; rw [hv, brd, ← hF1]
-- the other land is brought up to here
theorem nI_6 {r : Nat} (h : r < 1000) : nI r * 6 = nI (6 * r) := by
  have y6 : (6 : Int32).toInt = 6 := rfl
  rw [i32eq, i32m (by rw [nI_toInt (by omega), y6]; omega) (by rw [nI_toInt (by omega), y6]; omega), nI_toInt (by omega), nI_toInt (by omega), y6]
  omega
theorem ag_rp {N : Nat → Int32} {q : Nat} (hq : q ≤ 512) (hk : ∀ j, j < q → okN N j) : ∀ (m r : Nat), r + m = q → gAg N m (nI r) (rp N r).1 (rp N r).2 = rp N q ∧ okAg N (nI q) m (nI r) (rp N r).1 (rp N r).2 := by
  intro m
  induction m with
  | zero =>
    intro r hr
    have e : r = q := hr
    subst e
    exact ⟨rfl, nI_le (Nat.le_refl _) (by omega)⟩
  | succ m ih =>
    intro r hr
    obtain ⟨i1, i2⟩ := ih (r + 1) (by omega)
    have hs : rp N (r + 1) = (gX5_act (rp N r).1 (rp N r).2 N (nI (6 * r))).2 := rfl
    rw [hs, ← nI_1] at i1 i2
    refine ⟨?_, nI_ge (by omega) (by omega), ?_, ?_⟩
    · rw [gAg, nI_6 (by omega), brd]; exact i1
    · rw [nI_6 (by omega)]; exact (act_V (N := N) _ _ (show r < 513 by omega)).2 (hk r (by omega))
    · rw [nI_6 (by omega), brd]; exact i2
theorem gAr_e : ∀ (m r : Nat) (M : jF), M 81 0 = nI r → gAr m M 81 0 = nI (r + m) ∧ ∀ k, k ≠ 81 → gAr m M k = M k := by
  intro m
  induction m with
  | zero => intro r M h; exact ⟨h, fun _ _ => rfl⟩
  | succ m ih =>
    intro r M h
    have h1 : u2 M 81 0 (M 81 0 + 1) 81 0 = nI (r + 1) := by rw [u2_at, h, nI_1]
    obtain ⟨a1, a2⟩ := ih (r + 1) _ h1
    rw [gAr]
    exact ⟨by rw [a1, show r + 1 + m = r + (m + 1) by omega], fun k hk => by rw [a2 k hk, u2_other _ hk]⟩
theorem Iv_anew {n : Nat} {F F2 : jF} {G G2 : jG} {M FM : jF} {GM : jG} (h : Iv n F G F2 G2 M FM GM) (hn : n < 512) (v : Int32) : ∃ m, m ≤ 512 ∧ okAg (M 82) (M 80 0) m (M 81 0) F2 G2 ∧ gAg (M 82) m (M 81 0) F2 G2 = (F, G) ∧ Iv (n + 1) F G F G (gAr m M) (u2 FM 60 0 v) GM := by
  have hs := Iv_same h hn v
  obtain ⟨q, r, ⟨hr1, hq1, hn1⟩, ⟨m80, m81⟩, ⟨f1, f2⟩, ho, -⟩ := h
  obtain ⟨q2, r2, a1, ⟨b1, b2⟩, -, -, hR⟩ := hs
  have e2 : q2 = q := by
    have := b1.symm.trans m80
    rwa [nI_eq (by omega) (by omega)] at this
  obtain ⟨g1, g2⟩ := gAr_e (q - r) r M m81
  obtain ⟨c1, c2⟩ := ag_rp (N := M 82) (q := q) (by omega) ho (q - r) r (by omega)
  have ef : F2 = (rp (M 82) r).1 ∧ G2 = (rp (M 82) r).2 := by rw [← f2]; exact ⟨rfl, rfl⟩
  refine ⟨q - r, by omega, by rw [m80, m81, ef.1, ef.2]; exact c2, by rw [m81, ef.1, ef.2, c1, f1], q, q, ⟨Nat.le_refl _, by omega, by omega⟩, ⟨by rw [g2 80 (by decide)]; exact m80, by rw [g1]; congr 1; omega⟩, ⟨by rw [g2 82 (by decide)]; exact f1, by rw [g2 82 (by decide)]; exact f1⟩, by rw [g2 82 (by decide)]; exact ho, hR⟩
