-- run
theorem fm_run {n : Nat} {F F2 : jF} {G G2 : jG} {M FM : jF} {GM : jG} (h : Iv n F G F2 G2 M FM GM) (hn : n < 512) (p1 : Int32) : okX11_run F G M p1 ∧ okX12_run FM GM p1 ∧ rM n F G F2 G2 M FM GM (fun x : Int32 => x.toInt64) (fun x : Int32 => x.toInt64) (wk 2 3 9) [2, 3] (gX11_run F G M p1) (gX12_run FM GM p1) := by
  have hr0 := Iv_rr h hn 0
  have hrb := (Iv_b h).1
  have hN := hrb.1.1.1
  have hR := hrb.2.1.1
  have h00 := hN.2.2.2.2
  have r0 := hR.at 0 (by decide)
  have d1 : ¬ (1 : Int32) = 0 := by decide
  have d2 : ¬ (2 : Int32) = 0 := by decide
  -- the reference when it refuses
  have fail : ∀ v : Int32, ¬ v = 0 → gX12_run_L37 p1 (fun (_ : Int32) (F14 : jF) (G15 : jG) => bv ((if (F14 60 0) = 0 then (F14 0 0) else 0) : Int32) (fun v17 : Int32 => (v17, (F14, G15)))) 80 0 (u2 FM 60 0 v) GM = (0, (u2 FM 60 0 v, GM)) ∧ okX12_run_L37 p1 (fun _ _ _ => True) 80 0 (u2 FM 60 0 v) GM := fun v hv => by
    constructor
    · rw [gX12_run_L37, u2_at, if_neg hv]
      simp only [bvd, u2_at, if_neg hv]
      split <;> rfl
    · rw [okX12_run_L37, u2_at]
      exact ⟨fun _ => trivial, fun _ => ⟨fun e => absurd e hv, fun _ => trivial⟩⟩
  rcases nr_c p1 1 50 with ⟨a1, a2, a3, a4⟩ | ⟨a1, a2⟩
  · have z1 : (1 : Int32).toInt = 1 := rfl
    have z50 : (50 : Int32).toInt = 50 := rfl
    have z9 : (9999 : Int32).toInt = 9999 := rfl
    obtain ⟨p, hp, ep⟩ := nI_of (x := p1) (by rw [i32lt]; have : (0 : Int32).toInt = 0 := rfl; omega)
    have eip : p1.toInt = (p : Int) := by rw [ep, nI_toInt hp]
    have es : (F 0 0 + p1).toInt = (cn F 0 : Int) + p := by rw [h00.1, ep, nI_add, nI_toInt (by omega)]; omega
    by_cases c : cn F 0 + p ≤ 9999
    · -- done
      have cc : ¬ (9999 : Int32) < F 0 0 + p1 := by rw [i32lt, es, z9]; omega
      have cm : F 0 0 + p1 ≤ 9999 := by rw [i32le, es, z9]; omega
      obtain ⟨S, T, s1, s2, s3, s4, s5, s6, s7⟩ := hrs_m (p := p) (by omega) p 0 F (u2 FM 60 0 0) G GM _ (by omega) hr0 (by omega) (by omega) (u2_at _ _ _ _)
      have hs : gX5_passHours F G p1 = (S.1 0 0, (S.1, S.2)) := by
        unfold gX5_passHours
        have := s4 (fun (_ : Int32) (F88 : jF) (G89 : jG) => ((F88 0 0), (F88, G89))) 80 (by omega)
        rw [nI_0, ← ep] at this
        exact this
      have hso : okX5_passHours F G p1 := by
        unfold okX5_passHours
        have := s6 (fun _ _ _ => True) 80 (by omega) trivial
        rw [nI_0, ← ep] at this
        exact this
      have hmr : gX12_run FM GM p1 = (T.1 0 0, (T.1, T.2)) := by
        unfold gX12_run
        have := s5 (fun (_ : Int32) (F14 : jF) (G15 : jG) => bv ((if (F14 60 0) = 0 then (F14 0 0) else 0) : Int32) (fun v17 : Int32 => (v17, (F14, G15)))) 80 (by omega)
        rw [nI_0, ← ep] at this
        simp only [bvd] at this ⊢
        rw [a2, if_neg d1, r0, if_pos cm, this, if_pos s3]
      have hmo : okX12_run FM GM p1 := by
        unfold okX12_run
        have := s7 (fun _ _ _ => True) 80 (by omega) trivial
        rw [nI_0, ← ep] at this
        simp only [bvd]
        rw [a2, if_neg d1, r0, if_pos cm]
        exact this
      obtain ⟨M1, m1, m2, m3, m4⟩ := Iv_act (F1 := S.1) (G1 := S.2) h hn 17 p1 0 0 0 0 (ov_17 hso) (by rw [ac_17, hs]) (by rw [s2, show 1000000 * ((n + 1 : Nat) : Int) + 119988 * ((cn F 0 + p : Nat) : Int) = 1000000 * ((n + 1 : Nat) : Int) + 119988 * (cn F 0 : Int) + 119988 * (p : Int) by omega]; exact s1)
      have hst : gX11_needState 1 = 0 := rfl
      refine ⟨?_, hmo, Or.inl ⟨S.1 0 0, _, _, M1, T.1 0 0, _, _, ?_, hmr, s3, ?_, m4⟩⟩
      · unfold okX11_run
        rw [bvd]; intro _
        rw [bvd, if_neg cc, bvd]; intro _
        refine ⟨(m1 _).2, ?_⟩
        rw [(m1 _).1, brd]; exact m3
      · unfold gX11_run
        rw [bvd, a1, if_pos rfl, bvd, if_neg cc, bvd, hst, if_pos rfl, (m1 _).1, brd, brd]
        show (0, (Int64.toInt32 (gX5_act F G (M1 82) (nI (6 * (M 80 0).toNatClampNeg))).1, ((gX5_act F G (M1 82) (nI (6 * (M 80 0).toNatClampNeg))).2, M1))) = _
        rw [m2, ac_17, hs, ti32]
      · show (S.1 0 0).toInt64 = (T.1 0 0).toInt64
        rw [s1.2.1.1.at 0 (by decide)]
    · have cc : (9999 : Int32) < F 0 0 + p1 := by rw [i32lt, es, z9]; omega
      have cm : ¬ F 0 0 + p1 ≤ 9999 := by rw [i32le, es, z9]; omega
      have hst : gX11_needState 0 = 3 := rfl
      refine ⟨?_, ?_, Or.inr ⟨3, 0, 0, 2, by decide, ?_, ?_, rfl⟩⟩
      · unfold okX11_run
        rw [bvd]; intro _
        rw [bvd, if_pos cc, bvd, hst]; intro e; exact absurd e (by decide)
      · unfold okX12_run
        simp only [bvd]
        rw [a2, if_neg d1, r0, if_neg cm]
        exact (fail 2 d2).2
      · unfold gX11_run
        rw [bvd, a1, if_pos rfl, bvd, if_pos cc, bvd, hst, if_neg (by decide)]
      · unfold gX12_run
        rw [bvd, a2, if_neg d1, r0, if_neg cm, bvd, bvd]
        exact (fail 2 d2).1
  · refine ⟨?_, ?_, Or.inr ⟨2, 0, 0, 1, by decide, ?_, ?_, rfl⟩⟩
    · unfold okX11_run
      rw [bvd]; intro e; rw [a1] at e; exact absurd e (by decide)
    · unfold okX12_run
      simp only [bvd]
      rw [a2, if_pos rfl]
      exact (fail 1 d1).2
    · unfold gX11_run
      rw [bvd, a1, if_neg (by decide)]
    · unfold gX12_run
      rw [bvd, a2, if_pos rfl, bvd, bvd]
      exact (fail 1 d1).1
