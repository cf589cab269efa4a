-- an hour, and the hours of a call
set_option maxHeartbeats 4000000 in
theorem hour_m {b : Int} {c : Nat} {F FM : jF} {G GM : jG} (h : RR b c F G FM GM) (hb : b + 119988 ≤ 1719000000) (hh : cn F 0 ≤ 9998) : ∃ S T : jS, RR (b + 119988) c S.1 S.2 T.1 T.2 ∧ cn S.1 0 = cn F 0 + 1 ∧ T.1 60 = FM 60 ∧ (∀ (f1 v2 : Int32) (K : Int32 → jF → jG → Int32 × jS) (n : Nat), ¬ f1 ≤ v2 → gX5_passHours_L2 f1 K (n + 1) v2 F G = gX5_passHours_L2 f1 K n (v2 + 1) S.1 S.2) ∧ gX12_goesOn FM GM = T ∧ (∀ (f1 v2 : Int32) (K : Int32 → jF → jG → Prop) (n : Nat), ¬ f1 ≤ v2 → okX5_passHours_L2 f1 K n (v2 + 1) S.1 S.2 → okX5_passHours_L2 f1 K (n + 1) v2 F G) ∧ okX12_goesOn FM GM := by
  obtain ⟨G1, GM1, r1, r2, r3, r4, r5⟩ := rain_m h (by omega)
  obtain ⟨S1, T1, a1, a2, a3, a4, a5, a6, a7⟩ := lk_gates r1
  obtain ⟨S2, T2, b1, b2, b3, b4, b5, b6, b7⟩ := lk_pumps (by omega) a1
  obtain ⟨S3, T3, c1, c2, c3, c4, c5, c6, c7⟩ := lk_dykes b1
  obtain ⟨S4, T4, d1, d2, d3, d4, d5, d6, d7, d8⟩ := lk_harms c1
  obtain ⟨e1, e2, e3⟩ := lk_e d1
  obtain ⟨S5, T5, f1, f2, f3, f4, f5, f6, f7⟩ := lk_crew e1 e2
  have elk : (gX8_lookAt S4.1 S4.2).1 0 = S4.1 0 := by
    have hl : gX8_lookAt S4.1 S4.2 = (fa S4.1 70 (itr (fun i f => va_up f i (dr S4.1 S4.2 i)) 0 8 (S4.1 70)), S4.2) := lk_f d1
    rw [hl]; exact fa_o S4.1 (itr (fun i f => va_up f i (dr S4.1 S4.2 i)) 0 8 (S4.1 70)) (by decide : 0 ≠ 70)
  have e0 : S5.1 0 = F 0 := by rw [f7, elk, d7, c7, b7, a7]
  obtain ⟨S6, T6, g1, g2, g3, g4, g5, g6, g7, g8⟩ := RR_end f1 (by rw [cn_of e0]; exact hh)
  have hc2 : (∀ (K : Int32 → jF → jG → jS), gX10_countHarms_L2 K 80 0 S3.1 S3.2 = K 8 S4.1 S4.2) := d2
  have hch : gX10_countHarms S3.1 S3.2 = (S4.1, S4.2) := by unfold gX10_countHarms; rw [d2]
  have hchk : okX10_countHarms S3.1 S3.2 := by unfold okX10_countHarms; exact d4 _ trivial
  have hhm : gX12_harms T3.1 T3.2 = (T4.1, T4.2) := by unfold gX12_harms; rw [d3]
  have hhmk : okX12_harms T3.1 T3.2 := by unfold okX12_harms; exact d5 _ trivial
  have g4' := g4
  rw [g8] at g4'
  simp only [bsd] at g4'
  refine ⟨S6, T6, g1, by rw [g2, cn_of e0], by rw [g3, f6, d6, c6, b6, a6], ?_, ?_, ?_, ?_⟩
  · intro w1 v2 K n hv
    rw [gX5_passHours_L2, if_neg hv, r2]
    simp only [bsd, a2, b2, c2, hch, f2]
    rw [g8]
    show gX5_passHours_L2 w1 K n (v2 + 1) (gX10_endHour S5.1 _).1 (gX10_endHour S5.1 _).2 = _
    rw [← g4']
  · unfold gX12_goesOn
    rw [r3]
    simp only [bsd, a3, b3, c3, hhm, f3]
    exact g5
  · intro w1 v2 K n hv hk
    rw [okX5_passHours_L2]
    refine ⟨fun e => absurd e hv, fun _ => ⟨r4, ?_⟩⟩
    rw [r2, bsd]
    refine a4 _ _ _ (b4 _ _ _ (c4 _ _ _ ⟨hchk, ?_⟩))
    rw [hch, bsd]
    refine ⟨e3, ?_⟩
    rw [bsd]
    refine f4 _ _ _ ?_
    rw [g8, bsd]
    refine ⟨g7 _, ?_⟩
    rw [bsd, ← g4'] at *
    exact hk
  · unfold okX12_goesOn
    refine ⟨r5, ?_⟩
    rw [r3, bsd]
    refine a5 _ (b5 _ (c5 _ ⟨hhmk, ?_⟩))
    rw [hhm, bsd]
    refine f5 _ ⟨g6, ?_⟩
    rw [bvd]
    first | exact ⟨fun _ => trivial, fun _ => g6⟩ | exact ⟨⟨fun _ => trivial, fun _ => g6⟩, trivial⟩ | skip
