-- the loops of an hour
theorem passk {b : Int} {c : Nat} {F FM : jF} {G GM : jG} (h : RR b c F G FM GM) {i : Nat} (hi : i < cn F 17) : okX12_isSeaHigher FM GM (nI i) ∧ ((u2 FM 22 i (if gX12_isSeaHigher FM GM (nI i) = 0 then FM 22 i else 0)) 22 i = 1 → okX12_flows (u2 FM 22 i (if gX12_isSeaHigher FM GM (nI i) = 0 then FM 22 i else 0)) GM ((u2 FM 22 i (if gX12_isSeaHigher FM GM (nI i) = 0 then FM 22 i else 0)) 18 i) ((u2 FM 22 i (if gX12_isSeaHigher FM GM (nI i) = 0 then FM 22 i else 0)) 19 i) ((u2 FM 22 i (if gX12_isSeaHigher FM GM (nI i) = 0 then FM 22 i else 0)) 20 i).toInt64) := by
  have hE := h.1.1
  have hR := h.2.1.1
  have hG := h.2.1.2
  have hn : cn F 17 ≤ 8 := hE.1.1.2.1.2
  obtain ⟨w1, w2, w3⟩ := h.1.2.1.1 i
  obtain ⟨hw, ⟨hm0, hm1⟩, -⟩ := w1 hi
  obtain ⟨s1, s2⟩ := sp_m hE hR hG (by omega) hw
  refine ⟨s2, fun h1 => ?_⟩
  by_cases c0 : gX12_isSeaHigher FM GM (nI i) = 0
  · rw [if_pos c0, u2_id, hR.at 18 (by decide), hR.at 19 (by decide), hR.at 20 (by decide)]
    obtain ⟨x, G1, GM1, f1, f2, f3, f4, f5, f6, f7, f8⟩ := flow_m hE hR hG hw (F 20 i).toInt64 (by rw [i3264]; omega) (by rw [i3264]; omega)
    exact f8
  · rw [if_neg c0, u2_at] at h1
    exact absurd h1 (by decide)
theorem goes_F (F : jF) (G : jG) (p q : Int32) (x : Int64) : (gX12_goes F G p q x).1 = F := by
  unfold gX12_goes
  simp only [bvd]
  repeat' split
  all_goals rfl
theorem flows_F (F : jF) (G : jG) (p q : Int32) (x : Int64) : (gX12_flows F G p q x).2.1 = F := by
  unfold gX12_flows
  simp only [bvd, bsd]
  exact goes_F _ _ _ _ _
theorem fo_F (F : jF) (G : jG) (p : Int32) : (gX12_flowsOver F G p).2.1 = F := by
  have key : ∀ (c : Prop) [Decidable c] (a b : Int32) (m : Int64), (if c then ((gX12_flows F G a b m).1, ((gX12_flows F G a b m).2.1, (gX12_flows F G a b m).2.2)) else ((0 : Int64), (F, G))).2.1 = F := fun c _ a b m => by
    split
    · exact flows_F F G a b m
    · rfl
  unfold gX12_flowsOver
  simp only [bvd, brd]
  exact key _ _ _ _
theorem cge (N i : Nat) (h : i < N) (hN : N < 100) : ¬ nI N ≤ nI i := nI_ge h (by omega)
theorem cle (N : Nat) (hN : N < 100) : nI N ≤ nI N := nI_le (Nat.le_refl _) (by omega)
def cl_gates (i : Nat) (S : jS) : jS := if i < cn S.1 17 then gX4_pass S.1 S.2 i else S
def ml_gates : Nat → jS → jS := fun i S => stGm i S
theorem f60_gates (i : Nat) (S : jS) : (ml_gates i S).1 60 = S.1 60 := by
  have key : ∀ (v : Int32) (c : Prop) [Decidable c] (p q : Int32) (m : Int64), (if c then (gX12_flows (u2 S.1 22 i v) S.2 p q m).2 else (u2 S.1 22 i v, S.2)).1 60 = S.1 60 := fun v c _ p q m => by
    split
    · rw [flows_F]; exact u2_other S.1 (by decide : 60 ≠ 22) i v
    · exact u2_other S.1 (by decide : 60 ≠ 22) i v
  unfold ml_gates stGm
  exact key _ _ _ _ _
theorem ck_gates {b : Int} {c : Nat} {S T : jS} (h : RR b c S.1 S.2 T.1 T.2) {i : Nat} (hi : i < cn S.1 17) : RR b c (cl_gates i S).1 (cl_gates i S).2 (ml_gates i T).1 (ml_gates i T).2 ∧ cn (cl_gates i S).1 17 = cn S.1 17 ∧ (cl_gates i S).1 0 = S.1 0 := by
  have hm := pass_m h hi
  unfold cl_gates ml_gates
  rw [if_pos hi]
  exact ⟨hm.1, cn_of (hm.2.2 17 (by decide)), hm.2.2 0 (by decide)⟩
set_option maxHeartbeats 4000000 in
theorem lk_gates {b : Int} {c : Nat} {F FM : jF} {G GM : jG} (h : RR b c F G FM GM) : ∃ S T : jS, RR b c S.1 S.2 T.1 T.2 ∧ (∀ (f2 f1 : Int32) (K : Int32 → jF → jG → Int32 × jS), gX5_passHours_L16 f2 f1 K 80 0 F G = K 8 S.1 S.2) ∧ (∀ (K : Int32 → jF → jG → jS), gX12_goesOn_L6 K 80 0 FM GM = K (nI (cn F 17)) T.1 T.2) ∧ (∀ (f2 f1 : Int32) (K : Int32 → jF → jG → Prop), K 8 S.1 S.2 → okX5_passHours_L16 f2 f1 K 80 0 F G) ∧ (∀ (K : Int32 → jF → jG → Prop), K (nI (cn F 17)) T.1 T.2 → okX12_goesOn_L6 K 80 0 FM GM) ∧ T.1 60 = FM 60 ∧ S.1 0 = F 0 := by
  obtain ⟨N, hNd⟩ : ∃ N, N = cn F 17 := ⟨_, rfl⟩
  have hN8 : N ≤ 8 := by have hN := h.1.1.1; have := hN.1.2.1.2; omega
  let P : Nat → jS → jS → Prop := fun _ S T => RR b c S.1 S.2 T.1 T.2 ∧ cn S.1 17 = N ∧ S.1 0 = F 0
  have hP0 : P 0 (F, G) (FM, GM) := ⟨h, hNd.symm, rfl⟩
  have hstep : ∀ i S T, i < N → P i S T → P (i + 1) (cl_gates i S) (ml_gates i T) := fun i S T hi hp => by
    obtain ⟨p1, p2, p3⟩ := hp
    have := ck_gates p1 (i := i) (by omega)
    exact ⟨this.1, this.2.1.trans p2, this.2.2.trans p3⟩
  have hno : ∀ i (S T : jS), N ≤ i → P i S T → cl_gates i S = S := fun i S T hi hp => by
    unfold cl_gates
    rw [if_neg (by have := hp.2.1; omega)]
  have hend := itrR (cl_gates) (ml_gates) N P hstep N 0 (F, G) (FM, GM) (by omega) hP0
  have hcut : itr cl_gates 0 8 (F, G) = itr cl_gates 0 N (F, G) := itr_cut _ 8 N hN8 _ (fun j hj => hno j _ _ hj hend)
  refine ⟨itr cl_gates 0 N (F, G), itr ml_gates 0 N (FM, GM), hend.1, ?_, ?_, ?_, ?_, ?_, hend.2.2⟩
  · intro f2 f1 K
    have hl := lpE (fun n i (S : jS) => gX5_passHours_L16 f2 f1 K n i S.1 S.2) (fun v S => K v S.1 S.2) cl_gates 8 (fun i S => ∃ T, P i S T) (fun n i S hi hp => by
      obtain ⟨T, hp⟩ := hp
      show gX5_passHours_L16 f2 f1 K (n + 1) (nI i) S.1 S.2 = _
      rw [gX5_passHours_L16, n8, if_neg (nI_ge hi (by omega)), ← nI_1]
      unfold cl_gates
      simp only [bvd, nI_clamp (show i < 2 ^ 31 by omega)]
      by_cases hc : i < cn S.1 17
      · rw [op_in hc, if_pos hc]; simp only [om_s, bsd]
      · rw [op_no hc, if_neg hc]; simp only [om_n]) (fun i S hi hp => by obtain ⟨T, hp⟩ := hp; by_cases hc : i < N; exact ⟨_, hstep i S T hc hp⟩; rw [hno i S T (by omega) hp]; exact ⟨T, hp⟩) (fun n S hp => by
      show gX5_passHours_L16 f2 f1 K (n + 1) (nI 8) S.1 S.2 = _
      rw [gX5_passHours_L16, n8, if_pos (nI_le (Nat.le_refl _) (by omega))]) 8 0 80 (F, G) (by omega) (by omega) ⟨(FM, GM), hP0⟩
    rw [nI_0, hcut] at hl
    exact hl
  · intro K
    have hl := lpE (fun n i (S : jS) => gX12_goesOn_L6 K n i S.1 S.2) (fun v S => K v S.1 S.2) ml_gates N (fun i T => ∃ S, P i S T) (fun n i T hi hp => by
      obtain ⟨S, hp, hq, -⟩ := hp
      have hn := hp.1.1.1
      have r0 : T.1 17 0 = nI N := by rw [hp.2.1.1.at 17 (by decide), ← hq]; exact hn.1.2.1.1
      show gX12_goesOn_L6 K (n + 1) (nI i) T.1 T.2 = _
      rw [gX12_goesOn_L6, r0, if_neg (nI_ge hi (by omega)), ← nI_1]
      unfold ml_gates stGm
      simp only [bvd, brd, nI_clamp (show i < 2 ^ 31 by omega)]
      split <;> split <;> rfl
      ) (fun i T hi hp => by obtain ⟨S, hp⟩ := hp; exact ⟨_, hstep i S T hi hp⟩) (fun n T hp => by
      obtain ⟨S, hp, hq, -⟩ := hp
      have hn := hp.1.1.1
      have r0 : T.1 17 0 = nI N := by rw [hp.2.1.1.at 17 (by decide), ← hq]; exact hn.1.2.1.1
      show gX12_goesOn_L6 K (n + 1) (nI N) T.1 T.2 = _
      rw [gX12_goesOn_L6, r0, if_pos (nI_le (Nat.le_refl _) (by omega))]) N 0 80 (FM, GM) (by omega) (by omega) ⟨(F, G), hP0⟩
    rw [nI_0] at hl
    rw [← hNd]
    exact hl
  · intro f2 f1 K hK
    have hl := lpO (fun n i (S : jS) => okX5_passHours_L16 f2 f1 K n i S.1 S.2) (fun v S => K v S.1 S.2) cl_gates 8 (fun i S => ∃ T, P i S T) (fun n i S hi hp hk => by
      obtain ⟨T, hp⟩ := hp
      show okX5_passHours_L16 f2 f1 K (n + 1) (nI i) S.1 S.2
      rw [okX5_passHours_L16, n8]
      unfold cl_gates at hk
      rw [← nI_1] at hk
      have hv : vp_in (nI i) 8 := nI_vin hi (by omega)
      refine ⟨fun e => absurd e (nI_ge hi (by omega)), fun _ => ⟨hv, ?_⟩⟩
      simp only [bvd, nI_clamp (show i < 2 ^ 31 by omega)]
      by_cases hc : i < cn S.1 17
      · rw [if_pos hc] at hk
        rw [op_in hc]; simp only [om_s, bsd]
        exact ⟨hv, hc, (pass_m hp.1 hc).2.1, hk⟩
      · rw [if_neg hc] at hk
        rw [op_no hc]; simp only [om_n]; exact hk) (fun i S hi hp => by obtain ⟨T, hp⟩ := hp; by_cases hc : i < N; exact ⟨_, hstep i S T hc hp⟩; rw [hno i S T (by omega) hp]; exact ⟨T, hp⟩) (fun n S hp hk => by
      show okX5_passHours_L16 f2 f1 K (n + 1) (nI 8) S.1 S.2
      rw [okX5_passHours_L16, n8]
      exact ⟨fun _ => hk, fun e => absurd (nI_le (Nat.le_refl _) (by omega)) e⟩) 8 0 80 (F, G) (by omega) (by omega) ⟨(FM, GM), hP0⟩ (by rw [hcut]; exact hK)
    rw [nI_0] at hl
    exact hl
  · intro K hK
    have hl := lpO (fun n i (S : jS) => okX12_goesOn_L6 K n i S.1 S.2) (fun v S => K v S.1 S.2) ml_gates N (fun i T => ∃ S, P i S T) (fun n i T hi hp hk => by
      obtain ⟨S, hp, hq, -⟩ := hp
      have hn := hp.1.1.1
      have r0 : T.1 17 0 = nI N := by rw [hp.2.1.1.at 17 (by decide), ← hq]; exact hn.1.2.1.1
      show okX12_goesOn_L6 K (n + 1) (nI i) T.1 T.2
      rw [okX12_goesOn_L6, r0]
      rw [← nI_1] at hk
      have hv : vp_in (nI i) 8 := nI_vin (by omega) (by omega)
      refine ⟨fun e => absurd e (nI_ge hi (by omega)), fun _ => ?_⟩
      obtain ⟨q1, q2⟩ := passk hp (i := i) (by omega)
      unfold ml_gates stGm at hk
      simp only [bvd, brd, nI_clamp (show i < 2 ^ 31 by omega)]
      refine ⟨q1, ⟨fun _ => hv, fun _ => trivial⟩, hv, hv, fun e => ⟨hv, hv, hv, q2 e, ?_⟩, fun e => ?_⟩
      · rw [if_pos e] at hk; exact hk
      · rw [if_neg e] at hk; exact hk
      ) (fun i T hi hp => by obtain ⟨S, hp⟩ := hp; exact ⟨_, hstep i S T hi hp⟩) (fun n T hp hk => by
      obtain ⟨S, hp, hq, -⟩ := hp
      have hn := hp.1.1.1
      have r0 : T.1 17 0 = nI N := by rw [hp.2.1.1.at 17 (by decide), ← hq]; exact hn.1.2.1.1
      show okX12_goesOn_L6 K (n + 1) (nI N) T.1 T.2
      rw [okX12_goesOn_L6, r0]
      exact ⟨fun _ => hk, fun e => absurd (nI_le (Nat.le_refl _) (by omega)) e⟩) N 0 80 (FM, GM) (by omega) (by omega) ⟨(F, G), hP0⟩ (by rw [hNd]; rw [hNd] at *; exact hK)
    rw [nI_0] at hl
    exact hl
  · exact itrP (ml_gates) N (fun _ T => T.1 60 = FM 60) (fun i T _ hT => (f60_gates i T).trans hT) N 0 (FM, GM) (by omega) rfl
def cl_pumps (i : Nat) (S : jS) : jS := if i < cn S.1 23 then gX7_work S.1 S.2 i else S
def ml_pumps : Nat → jS → jS := fun i S => gX12_pumps S.1 S.2 (nI i)
theorem f60_pumps (i : Nat) (S : jS) : (ml_pumps i S).1 60 = S.1 60 := by
  have key : ∀ (c1 c2 c3 : Prop) [Decidable c1] [Decidable c2] [Decidable c3] (p q : Int32) (x : Int64) (j : Nat) (v w : Int32), (if c1 then S else if c2 then S else if c3 then S else (u2 (u2 (gX12_goes S.1 S.2 p q x).1 30 j v) 31 j w, (gX12_goes S.1 S.2 p q x).2)).1 60 = S.1 60 := fun c1 c2 c3 _ _ _ p q x j v w => by
    split
    · rfl
    · split
      · rfl
      · split
        · rfl
        · show u2 (u2 (gX12_goes S.1 S.2 p q x).1 30 j v) 31 j w 60 = S.1 60
          rw [u2_other _ (by decide : 60 ≠ 31), u2_other _ (by decide : 60 ≠ 30), goes_F]
  unfold ml_pumps gX12_pumps
  simp only [bvd, bsd]
  exact key _ _ _ _ _ _ _ _ _
theorem ck_pumps {b : Int} {c : Nat} {S T : jS} (hb : b ≤ 1719000000) (h : RR b c S.1 S.2 T.1 T.2) {i : Nat} (hi : i < cn S.1 23) : RR b c (cl_pumps i S).1 (cl_pumps i S).2 (ml_pumps i T).1 (ml_pumps i T).2 ∧ cn (cl_pumps i S).1 23 = cn S.1 23 ∧ (cl_pumps i S).1 0 = S.1 0 := by
  have hm := work_m hb h hi
  unfold cl_pumps ml_pumps
  rw [if_pos hi]
  exact ⟨hm.1, cn_of (hm.2.2.2 23 (by decide) (by decide)), hm.2.2.2 0 (by decide) (by decide)⟩
set_option maxHeartbeats 4000000 in
theorem lk_pumps {b : Int} {c : Nat} {F FM : jF} {G GM : jG} (hb : b ≤ 1719000000) (h : RR b c F G FM GM) : ∃ S T : jS, RR b c S.1 S.2 T.1 T.2 ∧ (∀ (f2 f1 : Int32) (K : Int32 → jF → jG → Int32 × jS), gX5_passHours_L55 f2 f1 K 80 0 F G = K 8 S.1 S.2) ∧ (∀ (K : Int32 → jF → jG → jS), gX12_goesOn_L80 K 80 0 FM GM = K (nI (cn F 23)) T.1 T.2) ∧ (∀ (f2 f1 : Int32) (K : Int32 → jF → jG → Prop), K 8 S.1 S.2 → okX5_passHours_L55 f2 f1 K 80 0 F G) ∧ (∀ (K : Int32 → jF → jG → Prop), K (nI (cn F 23)) T.1 T.2 → okX12_goesOn_L80 K 80 0 FM GM) ∧ T.1 60 = FM 60 ∧ S.1 0 = F 0 := by
  obtain ⟨N, hNd⟩ : ∃ N, N = cn F 23 := ⟨_, rfl⟩
  have hN8 : N ≤ 8 := by have hN := h.1.1.1; have := hN.1.2.2.1.2; omega
  let P : Nat → jS → jS → Prop := fun _ S T => RR b c S.1 S.2 T.1 T.2 ∧ cn S.1 23 = N ∧ S.1 0 = F 0
  have hP0 : P 0 (F, G) (FM, GM) := ⟨h, hNd.symm, rfl⟩
  have hstep : ∀ i S T, i < N → P i S T → P (i + 1) (cl_pumps i S) (ml_pumps i T) := fun i S T hi hp => by
    obtain ⟨p1, p2, p3⟩ := hp
    have := ck_pumps hb p1 (i := i) (by omega)
    exact ⟨this.1, this.2.1.trans p2, this.2.2.trans p3⟩
  have hno : ∀ i (S T : jS), N ≤ i → P i S T → cl_pumps i S = S := fun i S T hi hp => by
    unfold cl_pumps
    rw [if_neg (by have := hp.2.1; omega)]
  have hend := itrR (cl_pumps) (ml_pumps) N P hstep N 0 (F, G) (FM, GM) (by omega) hP0
  have hcut : itr cl_pumps 0 8 (F, G) = itr cl_pumps 0 N (F, G) := itr_cut _ 8 N hN8 _ (fun j hj => hno j _ _ hj hend)
  refine ⟨itr cl_pumps 0 N (F, G), itr ml_pumps 0 N (FM, GM), hend.1, ?_, ?_, ?_, ?_, ?_, hend.2.2⟩
  · intro f2 f1 K
    have hl := lpE (fun n i (S : jS) => gX5_passHours_L55 f2 f1 K n i S.1 S.2) (fun v S => K v S.1 S.2) cl_pumps 8 (fun i S => ∃ T, P i S T) (fun n i S hi hp => by
      obtain ⟨T, hp⟩ := hp
      show gX5_passHours_L55 f2 f1 K (n + 1) (nI i) S.1 S.2 = _
      rw [gX5_passHours_L55, n8, if_neg (nI_ge hi (by omega)), ← nI_1]
      unfold cl_pumps
      simp only [bvd, nI_clamp (show i < 2 ^ 31 by omega)]
      by_cases hc : i < cn S.1 23
      · rw [op_in hc, if_pos hc]; simp only [om_s, bsd]
      · rw [op_no hc, if_neg hc]; simp only [om_n]) (fun i S hi hp => by obtain ⟨T, hp⟩ := hp; by_cases hc : i < N; exact ⟨_, hstep i S T hc hp⟩; rw [hno i S T (by omega) hp]; exact ⟨T, hp⟩) (fun n S hp => by
      show gX5_passHours_L55 f2 f1 K (n + 1) (nI 8) S.1 S.2 = _
      rw [gX5_passHours_L55, n8, if_pos (nI_le (Nat.le_refl _) (by omega))]) 8 0 80 (F, G) (by omega) (by omega) ⟨(FM, GM), hP0⟩
    rw [nI_0, hcut] at hl
    exact hl
  · intro K
    have hl := lpE (fun n i (S : jS) => gX12_goesOn_L80 K n i S.1 S.2) (fun v S => K v S.1 S.2) ml_pumps N (fun i T => ∃ S, P i S T) (fun n i T hi hp => by
      obtain ⟨S, hp, hq, -⟩ := hp
      have hn := hp.1.1.1
      have r0 : T.1 23 0 = nI N := by rw [hp.2.1.1.at 23 (by decide), ← hq]; exact hn.1.2.2.1.1
      show gX12_goesOn_L80 K (n + 1) (nI i) T.1 T.2 = _
      rw [gX12_goesOn_L80, r0, if_neg (nI_ge hi (by omega)), ← nI_1]
      rw [bsd]
      rfl
      ) (fun i T hi hp => by obtain ⟨S, hp⟩ := hp; exact ⟨_, hstep i S T hi hp⟩) (fun n T hp => by
      obtain ⟨S, hp, hq, -⟩ := hp
      have hn := hp.1.1.1
      have r0 : T.1 23 0 = nI N := by rw [hp.2.1.1.at 23 (by decide), ← hq]; exact hn.1.2.2.1.1
      show gX12_goesOn_L80 K (n + 1) (nI N) T.1 T.2 = _
      rw [gX12_goesOn_L80, r0, if_pos (nI_le (Nat.le_refl _) (by omega))]) N 0 80 (FM, GM) (by omega) (by omega) ⟨(F, G), hP0⟩
    rw [nI_0] at hl
    rw [← hNd]
    exact hl
  · intro f2 f1 K hK
    have hl := lpO (fun n i (S : jS) => okX5_passHours_L55 f2 f1 K n i S.1 S.2) (fun v S => K v S.1 S.2) cl_pumps 8 (fun i S => ∃ T, P i S T) (fun n i S hi hp hk => by
      obtain ⟨T, hp⟩ := hp
      show okX5_passHours_L55 f2 f1 K (n + 1) (nI i) S.1 S.2
      rw [okX5_passHours_L55, n8]
      unfold cl_pumps at hk
      rw [← nI_1] at hk
      have hv : vp_in (nI i) 8 := nI_vin hi (by omega)
      refine ⟨fun e => absurd e (nI_ge hi (by omega)), fun _ => ⟨hv, ?_⟩⟩
      simp only [bvd, nI_clamp (show i < 2 ^ 31 by omega)]
      by_cases hc : i < cn S.1 23
      · rw [if_pos hc] at hk
        rw [op_in hc]; simp only [om_s, bsd]
        exact ⟨hv, hc, (work_m hb hp.1 hc).2.1, hk⟩
      · rw [if_neg hc] at hk
        rw [op_no hc]; simp only [om_n]; exact hk) (fun i S hi hp => by obtain ⟨T, hp⟩ := hp; by_cases hc : i < N; exact ⟨_, hstep i S T hc hp⟩; rw [hno i S T (by omega) hp]; exact ⟨T, hp⟩) (fun n S hp hk => by
      show okX5_passHours_L55 f2 f1 K (n + 1) (nI 8) S.1 S.2
      rw [okX5_passHours_L55, n8]
      exact ⟨fun _ => hk, fun e => absurd (nI_le (Nat.le_refl _) (by omega)) e⟩) 8 0 80 (F, G) (by omega) (by omega) ⟨(FM, GM), hP0⟩ (by rw [hcut]; exact hK)
    rw [nI_0] at hl
    exact hl
  · intro K hK
    have hl := lpO (fun n i (S : jS) => okX12_goesOn_L80 K n i S.1 S.2) (fun v S => K v S.1 S.2) ml_pumps N (fun i T => ∃ S, P i S T) (fun n i T hi hp hk => by
      obtain ⟨S, hp, hq, -⟩ := hp
      have hn := hp.1.1.1
      have r0 : T.1 23 0 = nI N := by rw [hp.2.1.1.at 23 (by decide), ← hq]; exact hn.1.2.2.1.1
      show okX12_goesOn_L80 K (n + 1) (nI i) T.1 T.2
      rw [okX12_goesOn_L80, r0]
      rw [← nI_1] at hk
      have hv : vp_in (nI i) 8 := nI_vin (by omega) (by omega)
      refine ⟨fun e => absurd e (nI_ge hi (by omega)), fun _ => ?_⟩
      exact ⟨(work_m hb hp (i := i) (by omega)).2.2.1, by rw [bsd]; exact hk⟩
      ) (fun i T hi hp => by obtain ⟨S, hp⟩ := hp; exact ⟨_, hstep i S T hi hp⟩) (fun n T hp hk => by
      obtain ⟨S, hp, hq, -⟩ := hp
      have hn := hp.1.1.1
      have r0 : T.1 23 0 = nI N := by rw [hp.2.1.1.at 23 (by decide), ← hq]; exact hn.1.2.2.1.1
      show okX12_goesOn_L80 K (n + 1) (nI N) T.1 T.2
      rw [okX12_goesOn_L80, r0]
      exact ⟨fun _ => hk, fun e => absurd (nI_le (Nat.le_refl _) (by omega)) e⟩) N 0 80 (FM, GM) (by omega) (by omega) ⟨(F, G), hP0⟩ (by rw [hNd]; rw [hNd] at *; exact hK)
    rw [nI_0] at hl
    exact hl
  · exact itrP (ml_pumps) N (fun _ T => T.1 60 = FM 60) (fun i T _ hT => (f60_pumps i T).trans hT) N 0 (FM, GM) (by omega) rfl
def cl_dykes (i : Nat) (S : jS) : jS := if i < cn S.1 32 then gX3_hold S.1 S.2 i else S
def ml_dykes : Nat → jS → jS := fun i S => gX12_holds S.1 S.2 (nI i)
theorem f60_dykes (i : Nat) (S : jS) : (ml_dykes i S).1 60 = S.1 60 := by
  have key : ∀ (c : Prop) [Decidable c] (F1 F2 : jF) (G1 G2 : jG) (j : Nat) (v w u : Int32), F1 = S.1 → F2 = S.1 → (if c then (u2 (u2 F1 38 j v) 39 j w, G1) else (u2 F2 39 j u, G2)).1 60 = S.1 60 := fun c _ F1 F2 G1 G2 j v w u e1 e2 => by
    split
    · show u2 (u2 F1 38 j v) 39 j w 60 = S.1 60
      rw [u2_other _ (by decide : 60 ≠ 39), u2_other _ (by decide : 60 ≠ 38), e1]
    · show u2 F2 39 j u 60 = S.1 60
      rw [u2_other _ (by decide : 60 ≠ 39), e2]
  unfold ml_dykes gX12_holds
  simp only [bvd, brd]
  exact key _ _ _ _ _ _ _ _ _ ((fo_F _ _ _).trans (flows_F _ _ _ _ _)) (flows_F _ _ _ _ _)
theorem ck_dykes {b : Int} {c : Nat} {S T : jS} (h : RR b c S.1 S.2 T.1 T.2) {i : Nat} (hi : i < cn S.1 32) : RR b c (cl_dykes i S).1 (cl_dykes i S).2 (ml_dykes i T).1 (ml_dykes i T).2 ∧ cn (cl_dykes i S).1 32 = cn S.1 32 ∧ (cl_dykes i S).1 0 = S.1 0 := by
  have hm := hold_m h hi
  unfold cl_dykes ml_dykes
  rw [if_pos hi]
  exact ⟨hm.1, cn_of (hm.2.2.2 32 (by decide)), hm.2.2.2 0 (by decide)⟩
set_option maxHeartbeats 4000000 in
theorem lk_dykes {b : Int} {c : Nat} {F FM : jF} {G GM : jG} (h : RR b c F G FM GM) : ∃ S T : jS, RR b c S.1 S.2 T.1 T.2 ∧ (∀ (f2 f1 : Int32) (K : Int32 → jF → jG → Int32 × jS), gX5_passHours_L94 f2 f1 K 80 0 F G = K 8 S.1 S.2) ∧ (∀ (K : Int32 → jF → jG → jS), gX12_goesOn_L101 K 80 0 FM GM = K (nI (cn F 32)) T.1 T.2) ∧ (∀ (f2 f1 : Int32) (K : Int32 → jF → jG → Prop), K 8 S.1 S.2 → okX5_passHours_L94 f2 f1 K 80 0 F G) ∧ (∀ (K : Int32 → jF → jG → Prop), K (nI (cn F 32)) T.1 T.2 → okX12_goesOn_L101 K 80 0 FM GM) ∧ T.1 60 = FM 60 ∧ S.1 0 = F 0 := by
  obtain ⟨N, hNd⟩ : ∃ N, N = cn F 32 := ⟨_, rfl⟩
  have hN8 : N ≤ 8 := by have hN := h.1.1.1; have := hN.1.2.2.2.2; omega
  let P : Nat → jS → jS → Prop := fun _ S T => RR b c S.1 S.2 T.1 T.2 ∧ cn S.1 32 = N ∧ S.1 0 = F 0
  have hP0 : P 0 (F, G) (FM, GM) := ⟨h, hNd.symm, rfl⟩
  have hstep : ∀ i S T, i < N → P i S T → P (i + 1) (cl_dykes i S) (ml_dykes i T) := fun i S T hi hp => by
    obtain ⟨p1, p2, p3⟩ := hp
    have := ck_dykes p1 (i := i) (by omega)
    exact ⟨this.1, this.2.1.trans p2, this.2.2.trans p3⟩
  have hno : ∀ i (S T : jS), N ≤ i → P i S T → cl_dykes i S = S := fun i S T hi hp => by
    unfold cl_dykes
    rw [if_neg (by have := hp.2.1; omega)]
  have hend := itrR (cl_dykes) (ml_dykes) N P hstep N 0 (F, G) (FM, GM) (by omega) hP0
  have hcut : itr cl_dykes 0 8 (F, G) = itr cl_dykes 0 N (F, G) := itr_cut _ 8 N hN8 _ (fun j hj => hno j _ _ hj hend)
  refine ⟨itr cl_dykes 0 N (F, G), itr ml_dykes 0 N (FM, GM), hend.1, ?_, ?_, ?_, ?_, ?_, hend.2.2⟩
  · intro f2 f1 K
    have hl := lpE (fun n i (S : jS) => gX5_passHours_L94 f2 f1 K n i S.1 S.2) (fun v S => K v S.1 S.2) cl_dykes 8 (fun i S => ∃ T, P i S T) (fun n i S hi hp => by
      obtain ⟨T, hp⟩ := hp
      show gX5_passHours_L94 f2 f1 K (n + 1) (nI i) S.1 S.2 = _
      rw [gX5_passHours_L94, n8, if_neg (nI_ge hi (by omega)), ← nI_1]
      unfold cl_dykes
      simp only [bvd, nI_clamp (show i < 2 ^ 31 by omega)]
      by_cases hc : i < cn S.1 32
      · rw [op_in hc, if_pos hc]; simp only [om_s, bsd]
      · rw [op_no hc, if_neg hc]; simp only [om_n]) (fun i S hi hp => by obtain ⟨T, hp⟩ := hp; by_cases hc : i < N; exact ⟨_, hstep i S T hc hp⟩; rw [hno i S T (by omega) hp]; exact ⟨T, hp⟩) (fun n S hp => by
      show gX5_passHours_L94 f2 f1 K (n + 1) (nI 8) S.1 S.2 = _
      rw [gX5_passHours_L94, n8, if_pos (nI_le (Nat.le_refl _) (by omega))]) 8 0 80 (F, G) (by omega) (by omega) ⟨(FM, GM), hP0⟩
    rw [nI_0, hcut] at hl
    exact hl
  · intro K
    have hl := lpE (fun n i (S : jS) => gX12_goesOn_L101 K n i S.1 S.2) (fun v S => K v S.1 S.2) ml_dykes N (fun i T => ∃ S, P i S T) (fun n i T hi hp => by
      obtain ⟨S, hp, hq, -⟩ := hp
      have hn := hp.1.1.1
      have r0 : T.1 32 0 = nI N := by rw [hp.2.1.1.at 32 (by decide), ← hq]; exact hn.1.2.2.2.1
      show gX12_goesOn_L101 K (n + 1) (nI i) T.1 T.2 = _
      rw [gX12_goesOn_L101, r0, if_neg (nI_ge hi (by omega)), ← nI_1]
      rw [bsd]
      rfl
      ) (fun i T hi hp => by obtain ⟨S, hp⟩ := hp; exact ⟨_, hstep i S T hi hp⟩) (fun n T hp => by
      obtain ⟨S, hp, hq, -⟩ := hp
      have hn := hp.1.1.1
      have r0 : T.1 32 0 = nI N := by rw [hp.2.1.1.at 32 (by decide), ← hq]; exact hn.1.2.2.2.1
      show gX12_goesOn_L101 K (n + 1) (nI N) T.1 T.2 = _
      rw [gX12_goesOn_L101, r0, if_pos (nI_le (Nat.le_refl _) (by omega))]) N 0 80 (FM, GM) (by omega) (by omega) ⟨(F, G), hP0⟩
    rw [nI_0] at hl
    rw [← hNd]
    exact hl
  · intro f2 f1 K hK
    have hl := lpO (fun n i (S : jS) => okX5_passHours_L94 f2 f1 K n i S.1 S.2) (fun v S => K v S.1 S.2) cl_dykes 8 (fun i S => ∃ T, P i S T) (fun n i S hi hp hk => by
      obtain ⟨T, hp⟩ := hp
      show okX5_passHours_L94 f2 f1 K (n + 1) (nI i) S.1 S.2
      rw [okX5_passHours_L94, n8]
      unfold cl_dykes at hk
      rw [← nI_1] at hk
      have hv : vp_in (nI i) 8 := nI_vin hi (by omega)
      refine ⟨fun e => absurd e (nI_ge hi (by omega)), fun _ => ⟨hv, ?_⟩⟩
      simp only [bvd, nI_clamp (show i < 2 ^ 31 by omega)]
      by_cases hc : i < cn S.1 32
      · rw [if_pos hc] at hk
        rw [op_in hc]; simp only [om_s, bsd]
        exact ⟨hv, hc, (hold_m hp.1 hc).2.1, hk⟩
      · rw [if_neg hc] at hk
        rw [op_no hc]; simp only [om_n]; exact hk) (fun i S hi hp => by obtain ⟨T, hp⟩ := hp; by_cases hc : i < N; exact ⟨_, hstep i S T hc hp⟩; rw [hno i S T (by omega) hp]; exact ⟨T, hp⟩) (fun n S hp hk => by
      show okX5_passHours_L94 f2 f1 K (n + 1) (nI 8) S.1 S.2
      rw [okX5_passHours_L94, n8]
      exact ⟨fun _ => hk, fun e => absurd (nI_le (Nat.le_refl _) (by omega)) e⟩) 8 0 80 (F, G) (by omega) (by omega) ⟨(FM, GM), hP0⟩ (by rw [hcut]; exact hK)
    rw [nI_0] at hl
    exact hl
  · intro K hK
    have hl := lpO (fun n i (S : jS) => okX12_goesOn_L101 K n i S.1 S.2) (fun v S => K v S.1 S.2) ml_dykes N (fun i T => ∃ S, P i S T) (fun n i T hi hp hk => by
      obtain ⟨S, hp, hq, -⟩ := hp
      have hn := hp.1.1.1
      have r0 : T.1 32 0 = nI N := by rw [hp.2.1.1.at 32 (by decide), ← hq]; exact hn.1.2.2.2.1
      show okX12_goesOn_L101 K (n + 1) (nI i) T.1 T.2
      rw [okX12_goesOn_L101, r0]
      rw [← nI_1] at hk
      have hv : vp_in (nI i) 8 := nI_vin (by omega) (by omega)
      refine ⟨fun e => absurd e (nI_ge hi (by omega)), fun _ => ?_⟩
      exact ⟨(hold_m hp (i := i) (by omega)).2.2.1, by rw [bsd]; exact hk⟩
      ) (fun i T hi hp => by obtain ⟨S, hp⟩ := hp; exact ⟨_, hstep i S T hi hp⟩) (fun n T hp hk => by
      obtain ⟨S, hp, hq, -⟩ := hp
      have hn := hp.1.1.1
      have r0 : T.1 32 0 = nI N := by rw [hp.2.1.1.at 32 (by decide), ← hq]; exact hn.1.2.2.2.1
      show okX12_goesOn_L101 K (n + 1) (nI N) T.1 T.2
      rw [okX12_goesOn_L101, r0]
      exact ⟨fun _ => hk, fun e => absurd (nI_le (Nat.le_refl _) (by omega)) e⟩) N 0 80 (FM, GM) (by omega) (by omega) ⟨(F, G), hP0⟩ (by rw [hNd]; rw [hNd] at *; exact hK)
    rw [nI_0] at hl
    exact hl
  · exact itrP (ml_dykes) N (fun _ T => T.1 60 = FM 60) (fun i T _ hT => (f60_dykes i T).trans hT) N 0 (FM, GM) (by omega) rfl
def cl_harms (i : Nat) (S : jS) : jS := if i < cn S.1 8 then gX0_countHarm S.1 S.2 i else S
def ml_harms : Nat → jS → jS := fun i S => stHm i S
theorem f60_harms (i : Nat) (S : jS) : (ml_harms i S).1 60 = S.1 60 := by
  unfold ml_harms stHm
  split
  · rfl
  · split <;> rfl
theorem ck_harms {b : Int} {c : Nat} {S T : jS} (h : RR b c S.1 S.2 T.1 T.2) {i : Nat} (hi : i < cn S.1 8) : RR b c (cl_harms i S).1 (cl_harms i S).2 (ml_harms i T).1 (ml_harms i T).2 ∧ cn (cl_harms i S).1 8 = cn S.1 8 ∧ (cl_harms i S).1 0 = S.1 0 := by
  have hm := harm_m h hi
  unfold cl_harms ml_harms
  rw [if_pos hi]
  exact ⟨hm.1, by rw [hm.2], by rw [hm.2]⟩
set_option maxHeartbeats 4000000 in
theorem lk_harms {b : Int} {c : Nat} {F FM : jF} {G GM : jG} (h : RR b c F G FM GM) : ∃ S T : jS, RR b c S.1 S.2 T.1 T.2 ∧ (∀ (K : Int32 → jF → jG → jS), gX10_countHarms_L2 K 80 0 F G = K 8 S.1 S.2) ∧ (∀ (K : Int32 → jF → jG → jS), gX12_harms_L2 K 80 0 FM GM = K (nI (cn F 8)) T.1 T.2) ∧ (∀ (K : Int32 → jF → jG → Prop), K 8 S.1 S.2 → okX10_countHarms_L2 K 80 0 F G) ∧ (∀ (K : Int32 → jF → jG → Prop), K (nI (cn F 8)) T.1 T.2 → okX12_harms_L2 K 80 0 FM GM) ∧ T.1 60 = FM 60 ∧ S.1 0 = F 0 ∧ S.1 = F := by
  obtain ⟨N, hNd⟩ : ∃ N, N = cn F 8 := ⟨_, rfl⟩
  have hN8 : N ≤ 8 := by have hN := h.1.1.1; have := hN.1.1.2; omega
  let P : Nat → jS → jS → Prop := fun _ S T => RR b c S.1 S.2 T.1 T.2 ∧ cn S.1 8 = N ∧ S.1 0 = F 0
  have hP0 : P 0 (F, G) (FM, GM) := ⟨h, hNd.symm, rfl⟩
  have hstep : ∀ i S T, i < N → P i S T → P (i + 1) (cl_harms i S) (ml_harms i T) := fun i S T hi hp => by
    obtain ⟨p1, p2, p3⟩ := hp
    have := ck_harms p1 (i := i) (by omega)
    exact ⟨this.1, this.2.1.trans p2, this.2.2.trans p3⟩
  have hno : ∀ i (S T : jS), N ≤ i → P i S T → cl_harms i S = S := fun i S T hi hp => by
    unfold cl_harms
    rw [if_neg (by have := hp.2.1; omega)]
  have hend := itrR (cl_harms) (ml_harms) N P hstep N 0 (F, G) (FM, GM) (by omega) hP0
  have hcut : itr cl_harms 0 8 (F, G) = itr cl_harms 0 N (F, G) := itr_cut _ 8 N hN8 _ (fun j hj => hno j _ _ hj hend)
  refine ⟨itr cl_harms 0 N (F, G), itr ml_harms 0 N (FM, GM), hend.1, ?_, ?_, ?_, ?_, ?_, hend.2.2, ?_⟩
  · intro K
    have hl := lpE (fun n i (S : jS) => gX10_countHarms_L2 K n i S.1 S.2) (fun v S => K v S.1 S.2) cl_harms 8 (fun i S => ∃ T, P i S T) (fun n i S hi hp => by
      obtain ⟨T, hp⟩ := hp
      show gX10_countHarms_L2 K (n + 1) (nI i) S.1 S.2 = _
      rw [gX10_countHarms_L2, n8, if_neg (nI_ge hi (by omega)), ← nI_1]
      unfold cl_harms
      simp only [bvd, nI_clamp (show i < 2 ^ 31 by omega)]
      by_cases hc : i < cn S.1 8
      · rw [op_in hc, if_pos hc]; simp only [om_s, bsd]
      · rw [op_no hc, if_neg hc]; simp only [om_n]) (fun i S hi hp => by obtain ⟨T, hp⟩ := hp; by_cases hc : i < N; exact ⟨_, hstep i S T hc hp⟩; rw [hno i S T (by omega) hp]; exact ⟨T, hp⟩) (fun n S hp => by
      show gX10_countHarms_L2 K (n + 1) (nI 8) S.1 S.2 = _
      rw [gX10_countHarms_L2, n8, if_pos (nI_le (Nat.le_refl _) (by omega))]) 8 0 80 (F, G) (by omega) (by omega) ⟨(FM, GM), hP0⟩
    rw [nI_0, hcut] at hl
    exact hl
  · intro K
    have hl := lpE (fun n i (S : jS) => gX12_harms_L2 K n i S.1 S.2) (fun v S => K v S.1 S.2) ml_harms N (fun i T => ∃ S, P i S T) (fun n i T hi hp => by
      obtain ⟨S, hp, hq, -⟩ := hp
      have hn := hp.1.1.1
      have r0 : T.1 8 0 = nI N := by rw [hp.2.1.1.at 8 (by decide), ← hq]; exact hn.1.1.1
      show gX12_harms_L2 K (n + 1) (nI i) T.1 T.2 = _
      rw [gX12_harms_L2, r0, if_neg (nI_ge hi (by omega)), ← nI_1]
      unfold ml_harms stHm
      simp only [bvd, nI_clamp (show i < 2 ^ 31 by omega)]
      split
      · rfl
      · split <;> rfl
      ) (fun i T hi hp => by obtain ⟨S, hp⟩ := hp; exact ⟨_, hstep i S T hi hp⟩) (fun n T hp => by
      obtain ⟨S, hp, hq, -⟩ := hp
      have hn := hp.1.1.1
      have r0 : T.1 8 0 = nI N := by rw [hp.2.1.1.at 8 (by decide), ← hq]; exact hn.1.1.1
      show gX12_harms_L2 K (n + 1) (nI N) T.1 T.2 = _
      rw [gX12_harms_L2, r0, if_pos (nI_le (Nat.le_refl _) (by omega))]) N 0 80 (FM, GM) (by omega) (by omega) ⟨(F, G), hP0⟩
    rw [nI_0] at hl
    rw [← hNd]
    exact hl
  · intro K hK
    have hl := lpO (fun n i (S : jS) => okX10_countHarms_L2 K n i S.1 S.2) (fun v S => K v S.1 S.2) cl_harms 8 (fun i S => ∃ T, P i S T) (fun n i S hi hp hk => by
      obtain ⟨T, hp⟩ := hp
      show okX10_countHarms_L2 K (n + 1) (nI i) S.1 S.2
      rw [okX10_countHarms_L2, n8]
      unfold cl_harms at hk
      rw [← nI_1] at hk
      have hv : vp_in (nI i) 8 := nI_vin hi (by omega)
      refine ⟨fun e => absurd e (nI_ge hi (by omega)), fun _ => ⟨hv, ?_⟩⟩
      simp only [bvd, nI_clamp (show i < 2 ^ 31 by omega)]
      by_cases hc : i < cn S.1 8
      · rw [if_pos hc] at hk
        rw [op_in hc]; simp only [om_s, bsd]
        exact ⟨hv, hc, (ch_ok hc), hk⟩
      · rw [if_neg hc] at hk
        rw [op_no hc]; simp only [om_n]; exact hk) (fun i S hi hp => by obtain ⟨T, hp⟩ := hp; by_cases hc : i < N; exact ⟨_, hstep i S T hc hp⟩; rw [hno i S T (by omega) hp]; exact ⟨T, hp⟩) (fun n S hp hk => by
      show okX10_countHarms_L2 K (n + 1) (nI 8) S.1 S.2
      rw [okX10_countHarms_L2, n8]
      exact ⟨fun _ => hk, fun e => absurd (nI_le (Nat.le_refl _) (by omega)) e⟩) 8 0 80 (F, G) (by omega) (by omega) ⟨(FM, GM), hP0⟩ (by rw [hcut]; exact hK)
    rw [nI_0] at hl
    exact hl
  · intro K hK
    have hl := lpO (fun n i (S : jS) => okX12_harms_L2 K n i S.1 S.2) (fun v S => K v S.1 S.2) ml_harms N (fun i T => ∃ S, P i S T) (fun n i T hi hp hk => by
      obtain ⟨S, hp, hq, -⟩ := hp
      have hn := hp.1.1.1
      have r0 : T.1 8 0 = nI N := by rw [hp.2.1.1.at 8 (by decide), ← hq]; exact hn.1.1.1
      show okX12_harms_L2 K (n + 1) (nI i) T.1 T.2
      rw [okX12_harms_L2, r0]
      rw [← nI_1] at hk
      have hv : vp_in (nI i) 8 := nI_vin (by omega) (by omega)
      refine ⟨fun e => absurd e (nI_ge hi (by omega)), fun _ => ?_⟩
      have o1 := lom_ok (GM := T.2) hp.1.1 hp.2.1.1 (Or.inr (Or.inr ⟨i, by omega, rfl⟩))
      unfold ml_harms stHm at hk
      simp only [bvd, nI_clamp (show i < 2 ^ 31 by omega)]
      refine ⟨o1, fl_ok (by omega), hv, fun e => ?_, fun e => ⟨fun e2 => ?_, fun e2 => ?_⟩⟩
      · rw [if_pos e] at hk; exact hk
      · rw [if_neg e, if_pos e2] at hk; exact hk
      · rw [if_neg e, if_neg e2] at hk; exact ⟨hv, hv, hv, hk⟩
      ) (fun i T hi hp => by obtain ⟨S, hp⟩ := hp; exact ⟨_, hstep i S T hi hp⟩) (fun n T hp hk => by
      obtain ⟨S, hp, hq, -⟩ := hp
      have hn := hp.1.1.1
      have r0 : T.1 8 0 = nI N := by rw [hp.2.1.1.at 8 (by decide), ← hq]; exact hn.1.1.1
      show okX12_harms_L2 K (n + 1) (nI N) T.1 T.2
      rw [okX12_harms_L2, r0]
      exact ⟨fun _ => hk, fun e => absurd (nI_le (Nat.le_refl _) (by omega)) e⟩) N 0 80 (FM, GM) (by omega) (by omega) ⟨(F, G), hP0⟩ (by rw [hNd]; rw [hNd] at *; exact hK)
    rw [nI_0] at hl
    exact hl
  · exact itrP (ml_harms) N (fun _ T => T.1 60 = FM 60) (fun i T _ hT => (f60_harms i T).trans hT) N 0 (FM, GM) (by omega) rfl
  · exact itrP (cl_harms) N (fun _ S => S.1 = F) (fun i S hi hS => by
      unfold cl_harms
      split
      · unfold gX0_countHarm; simp only [bvd]; split; exact hS; split; exact hS; exact hS
      · exact hS) N 0 (F, G) (by omega) rfl
