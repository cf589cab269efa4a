-- the crews of an hour, and the hour
theorem n3 : (3 : Int32) = nI 3 := rfl
def cl_crew (i : Nat) (S : jS) : jS := gX2_toil S.1 S.2 i (gX5_dykeAt S.1 S.2 (S.1 64 i))
def ml_crew (i : Nat) (S : jS) : jS := gX12_crews S.1 S.2 (nI i)
set_option maxHeartbeats 4000000 in
theorem lk_crew {b : Int} {c : Nat} {F FM : jF} {G GM : jG} (h : RR b c F G FM GM) (hd : DR F G) : ∃ S T : jS, RR b c S.1 S.2 T.1 T.2 ∧ (∀ f2 f1 (K : Int32 → jF → jG → Int32 × jS), gX5_passHours_L151 f2 f1 K 80 0 F G = K 3 S.1 S.2) ∧ (∀ (K : Int32 → jF → jG → jS), gX12_goesOn_L126 K 80 0 FM GM = K 3 T.1 T.2) ∧ (∀ f2 f1 (K : Int32 → jF → jG → Prop), K 3 S.1 S.2 → okX5_passHours_L151 f2 f1 K 80 0 F G) ∧ (∀ (K : Int32 → jF → jG → Prop), K 3 T.1 T.2 → okX12_goesOn_L126 K 80 0 FM GM) ∧ T.1 60 = FM 60 ∧ S.1 0 = F 0 := by
  let P : Nat → jS → jS → Prop := fun _ S T => RR b c S.1 S.2 T.1 T.2 ∧ DR S.1 S.2
  have hP0 : P 0 (F, G) (FM, GM) := ⟨h, hd⟩
  have hstep : ∀ i S T, i < 3 → P i S T → P (i + 1) (cl_crew i S) (ml_crew i T) := fun i S T hi hp => (toil_m hp.1 hp.2 hi).1
  have hend := itrR cl_crew ml_crew 3 P hstep 3 0 (F, G) (FM, GM) (by omega) hP0
  have pc : ∀ i S, i < 3 → (∃ T, P i S T) → ∃ T, P (i + 1) (cl_crew i S) T := fun i S hi hp => by obtain ⟨T, hp⟩ := hp; exact ⟨_, hstep i S T hi hp⟩
  have pm : ∀ i T, i < 3 → (∃ S, P i S T) → ∃ S, P (i + 1) S (ml_crew i T) := fun i T hi hp => by obtain ⟨S, hp⟩ := hp; exact ⟨_, hstep i S T hi hp⟩
  have h60 : (fun (_ : Nat) (S T : jS) => P 0 S T ∧ T.1 60 = FM 60 ∧ S.1 0 = F 0) 3 (itr cl_crew 0 3 (F, G)) (itr ml_crew 0 3 (FM, GM)) := itrR cl_crew ml_crew 3 (fun _ S T => P 0 S T ∧ T.1 60 = FM 60 ∧ S.1 0 = F 0) (fun i S T hi hp => ⟨hstep i S T hi hp.1, (toil_m hp.1.1 hp.1.2 hi).2.2.2.1.trans hp.2.1, (toil_m hp.1.1 hp.1.2 hi).2.2.2.2.trans hp.2.2⟩) 3 0 (F, G) (FM, GM) (by omega) ⟨hP0, rfl, rfl⟩
  refine ⟨itr cl_crew 0 3 (F, G), itr ml_crew 0 3 (FM, GM), hend.1, ?_, ?_, ?_, ?_, h60.2.1, h60.2.2⟩
  · intro f2 f1 K
    have hl := lpE (fun n i (S : jS) => gX5_passHours_L151 f2 f1 K n i S.1 S.2) (fun v S => K v S.1 S.2) cl_crew 3 (fun _ _ => True) (fun n i S hi _ => by
      show gX5_passHours_L151 f2 f1 K (n + 1) (nI i) S.1 S.2 = _
      rw [gX5_passHours_L151, n3, if_neg (nI_ge hi (by omega)), ← nI_1]
      unfold cl_crew
      simp only [bvd, nI_clamp (show i < 2 ^ 31 by omega)]
      rw [op_in hi]
      simp only [om_s, bsd]) (fun _ _ _ _ => trivial) (fun n S _ => by
      show gX5_passHours_L151 f2 f1 K (n + 1) (nI 3) S.1 S.2 = _
      rw [gX5_passHours_L151, n3, if_pos (nI_le (Nat.le_refl _) (by omega))]) 3 0 80 (F, G) (by omega) (by omega) trivial
    rw [nI_0] at hl
    exact hl
  · intro K
    have hl := lpE (fun n i (S : jS) => gX12_goesOn_L126 K n i S.1 S.2) (fun v S => K v S.1 S.2) ml_crew 3 (fun _ _ => True) (fun n i S hi _ => by
      show gX12_goesOn_L126 K (n + 1) (nI i) S.1 S.2 = _
      rw [gX12_goesOn_L126, n3, if_neg (nI_ge hi (by omega)), ← nI_1, bsd]
      rfl) (fun _ _ _ _ => trivial) (fun n S _ => by
      show gX12_goesOn_L126 K (n + 1) (nI 3) S.1 S.2 = _
      rw [gX12_goesOn_L126, n3, if_pos (nI_le (Nat.le_refl _) (by omega))]) 3 0 80 (FM, GM) (by omega) (by omega) trivial
    rw [nI_0] at hl
    exact hl
  · intro f2 f1 K hK
    have hl := lpO (fun n i (S : jS) => okX5_passHours_L151 f2 f1 K n i S.1 S.2) (fun v S => K v S.1 S.2) cl_crew 3 (fun i S => ∃ T, P i S T) (fun n i S hi hp hk => by
      obtain ⟨T, hp⟩ := hp
      show okX5_passHours_L151 f2 f1 K (n + 1) (nI i) S.1 S.2
      rw [okX5_passHours_L151, n3]
      unfold cl_crew at hk
      rw [← nI_1] at hk
      have hv : vp_in (nI i) 3 := nI_vin hi (by omega)
      refine ⟨fun e => absurd e (nI_ge hi (by omega)), fun _ => ⟨hv, ?_⟩⟩
      simp only [bvd, nI_clamp (show i < 2 ^ 31 by omega)]
      rw [op_in hi]
      simp only [om_s, bsd]
      exact ⟨hv, hv, hi, da_ok _, hi, (toil_m hp.1 hp.2 hi).2.1, hk⟩) pc (fun n S _ hk => by
      show okX5_passHours_L151 f2 f1 K (n + 1) (nI 3) S.1 S.2
      rw [okX5_passHours_L151, n3]
      exact ⟨fun _ => hk, fun e => absurd (nI_le (Nat.le_refl _) (by omega)) e⟩) 3 0 80 (F, G) (by omega) (by omega) ⟨(FM, GM), hP0⟩ hK
    rw [nI_0] at hl
    exact hl
  · intro K hK
    have hl := lpO (fun n i (S : jS) => okX12_goesOn_L126 K n i S.1 S.2) (fun v S => K v S.1 S.2) ml_crew 3 (fun i T => ∃ S, P i S T) (fun n i T hi hp hk => by
      obtain ⟨S, hp⟩ := hp
      show okX12_goesOn_L126 K (n + 1) (nI i) T.1 T.2
      rw [okX12_goesOn_L126, n3]
      rw [← nI_1] at hk
      exact ⟨fun e => absurd e (nI_ge hi (by omega)), fun _ => ⟨(toil_m hp.1 hp.2 hi).2.2.1, by rw [bsd]; exact hk⟩⟩) pm (fun n T _ hk => by
      show okX12_goesOn_L126 K (n + 1) (nI 3) T.1 T.2
      rw [okX12_goesOn_L126, n3]
      exact ⟨fun _ => hk, fun e => absurd (nI_le (Nat.le_refl _) (by omega)) e⟩) 3 0 80 (FM, GM) (by omega) (by omega) ⟨(F, G), hP0⟩ hK
    rw [nI_0] at hl
    exact hl
/-- the hour's end: the greatest sea, the next hour -/
theorem RR_end {b : Int} {c : Nat} {F FM : jF} {G GM : jG} (h : RR b c F G FM GM) (hh : cn F 0 ≤ 9998) : ∃ S T : jS, RR b c S.1 S.2 T.1 T.2 ∧ cn S.1 0 = cn F 0 + 1 ∧ T.1 60 = FM 60 ∧ (bs (gX1_noteSea F G (G 69 0)) (fun (F80 : jF) (G81 : jG) => bs (gX10_endHour F80 G81) (fun (F84 : jF) (G85 : jG) => (F84, G85)))) = S ∧ (bv (gX12_seaAt FM GM (FM 0 0)) (fun x56 : Int64 => bv ((if x56 ≤ (GM 58 0) then (GM 58 0) else bv (gX12_seaAt FM GM (FM 0 0)) (fun x59 : Int64 => x59)) : Int64) (fun v60 : Int64 => bv (u2 GM 58 0 v60) (fun G61 : jG => bv (u2 FM 0 0 ((FM 0 0) + 1)) (fun F63 : jF => (F63, G61)))))) = T ∧ okX12_seaAt FM GM (FM 0 0) ∧ (∀ G1 : jG, okX10_endHour F G1) ∧ gX1_noteSea F G (G 69 0) = (F, u2 G 58 0 (if G 69 0 < G 58 0 then G 58 0 else G 69 0)) := by
  have hE := h.1.1
  have hN := hE.1
  have hr := hN.hr
  have hR := h.2.1.1
  have hG := h.2.1.2
  have hsea := hE.sea
  have hz : G 69 0 = gX6_seaAt F G (F 0 0) := hE.2.2.2.2.2.1
  have hsm : gX12_seaAt FM GM (FM 0 0) = G 69 0 := by rw [hR.at 0 (by decide), hz]; exact sea_m G GM hN hE.2.2.2.1 hR hr.1 (by omega)
  obtain ⟨⟨⟨a1, a2, a3, a4, a5, a6⟩, h2⟩, ⟨h3, h4⟩, h5⟩ := h
  obtain ⟨⟨g1, g2, g3⟩, ⟨g4, g5, g6⟩, g7, g8⟩ := h2
  have h00 := hN.2.2.2.2
  have e0 : F 0 0 + 1 = nI (cn F 0 + 1) := by rw [h00.1, nI_1]
  have ec : cn (u2 F 0 0 (F 0 0 + 1)) 0 = cn F 0 + 1 := by
    show (u2 F 0 0 (F 0 0 + 1) 0 0).toNatClampNeg = _
    rw [u2_at, e0, nI_clamp (by omega)]
  have n1 : wN (u2 F 0 0 (F 0 0 + 1)) := by
    obtain ⟨⟨x1, x2, x3, x4⟩, x5, x6, x7, x8⟩ := a1
    have o : ∀ {k}, k ≠ 0 → u2 F 0 0 (F 0 0 + 1) k = F k := fun hk => u2_other F hk 0 (F 0 0 + 1)
    unfold wN
    rw [ec, cn_of (o (by decide : 8 ≠ 0)), cn_of (o (by decide : 17 ≠ 0)), cn_of (o (by decide : 23 ≠ 0)), cn_of (o (by decide : 32 ≠ 0)), cn_of (o (by decide : 40 ≠ 0)), cn_of (o (by decide : 44 ≠ 0)), cn_of (o (by decide : 1 ≠ 0)), o (by decide : 8 ≠ 0), o (by decide : 17 ≠ 0), o (by decide : 23 ≠ 0), o (by decide : 32 ≠ 0), o (by decide : 40 ≠ 0), o (by decide : 44 ≠ 0), o (by decide : 1 ≠ 0), u2_at]
    exact ⟨⟨x1, x2, x3, x4⟩, x5, x6, x7, e0, by omega⟩
  obtain ⟨v, hv⟩ : ∃ v, v = (if G 69 0 < G 58 0 then G 58 0 else G 69 0) := ⟨_, rfl⟩
  have hvm : (if G 69 0 ≤ G 58 0 then G 58 0 else G 69 0) = v := by rw [hv, maxle]
  have hns : gX1_noteSea F G (G 69 0) = (F, u2 G 58 0 v) := by unfold gX1_noteSea; rw [bvd, bvd, ← hv]
  have hV : wV v := by
    rw [hv]; split
    · exact a6.2.1
    · exact Or.inr ⟨by omega, by omega⟩
  let G2 : jG := u2 (u2 G 58 0 v) 69 0 (gX6_seaAt (u2 F 0 0 (F 0 0 + 1)) (u2 G 58 0 v) (u2 F 0 0 (F 0 0 + 1) 0 0))
  have hG2 : ∀ k, k ≠ 58 → k ≠ 69 → G2 k = G k := fun k x y => by show u2 (u2 G 58 0 v) 69 0 _ k = _; rw [u2_other _ y, u2_other _ x]
  have ao : ∀ {ks : List Nat}, 0 ∉ ks → ag ks F (u2 F 0 0 (F 0 0 + 1)) := fun hk => ag_off F hk 0 (F 0 0 + 1)
  refine ⟨(u2 F 0 0 (F 0 0 + 1), G2), (u2 FM 0 0 (F 0 0 + 1), u2 GM 58 0 v), ?_, ec, u2_other FM (by decide : 60 ≠ 0) 0 (F 0 0 + 1), ?_, ?_, ?_, ?_, by rw [hns, hv]⟩
  · show RR b c (u2 F 0 0 (F 0 0 + 1)) G2 (u2 FM 0 0 (F 0 0 + 1)) (u2 GM 58 0 v)
    refine ⟨⟨⟨n1, wB_c (ao (by decide)) (hG2 15 (by decide) (by decide)) (fun i _ => by rw [hG2 14 (by decide) (by decide)]) a2, ?_, wS_c (ao (by decide)) a4, wO_c (ao (by decide)) a5, ?_⟩, ⟨⟨wG_c (ao (by decide)) g1, wP_c (ao (by decide)) g2, wD_c (ao (by decide)) (hG2 61 (by decide) (by decide)) g3⟩, ⟨wR_c (ao (by decide)) g4, wC_c (ao (by decide)) g5, wWk_c (ao (by decide)) g6⟩, wM_c (ao (by decide)) g7, wT_c (u2_other F (by decide : 16 ≠ 0) 0 (F 0 0 + 1)) g8⟩⟩, ⟨ag_u2 h3 0 0 rfl, fun k hk => ?_⟩, rX_c (ao (by decide)) (ag_off FM (by decide) 0 (F 0 0 + 1)) (hG2 61 (by decide) (by decide)) (u2_other GM (by decide : 2 ≠ 58) 0 v) h5⟩
    · have hl := wL_c (F1 := u2 F 0 0 (F 0 0 + 1)) (ao (by decide)) a3
      refine ⟨hl.1, fun i hi => ?_⟩
      have := hl.2 i hi
      unfold lev at *
      rw [hG2 14 (by decide) (by decide)]
      exact this
    · refine ⟨?_, ?_, ?_, ?_⟩
      · show u2 (u2 G 58 0 v) 69 0 _ 69 0 = _
        rw [u2_at]
        exact sea_G n1 _ _ _
      · show wV (u2 (u2 G 58 0 v) 69 0 _ 58 0)
        rw [u2_other _ (by decide : 58 ≠ 69), u2_at]; exact hV
      · rw [hG2 57 (by decide) (by decide)]; exact a6.2.2.1
      · rw [hG2 57 (by decide) (by decide), cn_of (u2_other F (by decide : 1 ≠ 0) 0 (F 0 0 + 1))]; exact a6.2.2.2
    · by_cases e : k = 58
      · subst e
        funext j
        show u2 GM 58 0 v 58 j = u2 (u2 G 58 0 v) 69 0 _ 58 j
        rw [u2_other (u2 G 58 0 v) (by decide : 58 ≠ 69), u2_same, u2_same, h4 58 hk]
      · have e2 : k ≠ 69 := fun e => by subst e; revert hk; decide
        show u2 GM 58 0 v k = G2 k
        rw [u2_other _ e, hG2 k e e2]; exact h4 k hk
  · rw [hns]
    unfold gX10_endHour
    simp only [bsd, bvd]
    rfl
  · simp only [bvd]
    rw [hsm, hG.at 58 (by decide), hvm, hR.at 0 (by decide)]
  · rw [hR.at 0 (by decide)]; exact seam_ok (G := G) hN a4 hR hr.1 (by omega)
  · intro G1
    unfold okX10_endHour
    rw [bvd]
    have hr1 := n1.hr
    exact sea_ok n1 (wS_c (ao (by decide)) a4) hr1.1 (by omega)
