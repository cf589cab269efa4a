-- methods that change something, one by one
theorem wk0 {a b c : Nat} (ha : a ≠ 0) (hb : b ≠ 0) (hc : c ≠ 0) : wk a b c 0 = 0 := by
  unfold wk
  rw [if_neg (fun e => ha e.symm), if_neg (fun e => hb e.symm), if_neg (fun e => hc e.symm)]
theorem ti32 (x : Int32) : Int64.toInt32 x.toInt64 = x := Int32.toInt32_toInt64 x
theorem Iv_rr {n : Nat} {F F2 : jF} {G G2 : jG} {M FM : jF} {GM : jG} (h : Iv n F G F2 G2 M FM GM) (hn : n < 512) (v : Int32) : RR (1000000 * ((n + 1 : Nat) : Int) + 119988 * (cn F 0 : Int)) (n + 1) F G (u2 FM 60 0 v) GM := by
  obtain ⟨q, r, -, -, -, -, hr⟩ := Iv_same h hn v
  exact hr
theorem lK_of {F : jF} (hN : wN F) (hW : wWk F) : lK F := by
  obtain ⟨⟨y1, y2, y3, y4⟩, y5, y6, -⟩ := hN
  refine ⟨⟨y1.2, y2.2, y3.2, y4.2, y5.2, y6.2⟩, fun i k hk => ?_⟩
  rcases (hW i).1 with e | ⟨j, hj, e⟩
  · rw [e] at hk
    have hk : (none : Option Nat) = some k := hk
    exact nomatch hk
  · rw [e] at hk
    unfold opi at hk
    rw [if_neg (nI_pos (by omega)), nI_clamp (by omega)] at hk
    injection hk with hk
    omega
theorem fm_addBasin {n : Nat} {F F2 : jF} {G G2 : jG} {M FM : jF} {GM : jG} (h : Iv n F G F2 G2 M FM GM) (hn : n < 512) (p1 p2 : Int32) : okX11_addBasin F G M p1 p2 ∧ okX12_addBasin FM GM p1 p2 ∧ rM n F G F2 G2 M FM GM (fun x : Int32 => x.toInt64) (fun x : Int32 => x.toInt64) (wk 2 3 9) [2, 3] (gX11_addBasin F G M p1 p2) (gX12_addBasin FM GM p1 p2) := by
  have hr0 := Iv_rr h hn 0
  have hN := (Iv_b h).1.1.1.1
  have hR := (Iv_b h).1.2.1.1
  have h8 := hN.1.1
  have e8 : FM 8 0 = nI (cn F 8) := by rw [hR.at 8 (by decide)]; exact h8.1
  rcases nr_c p1 1 100 with ⟨a1, a2, a3, a4⟩ | ⟨a1, a2⟩
  · rcases nr_c p2 (-500) 500 with ⟨b1, b2, b3, b4⟩ | ⟨b1, b2⟩
    · by_cases c8 : cn F 8 < 8
      · -- done
        have hroom : gX11_needRoom (F 8 0) 8 = 0 := by unfold gX11_needRoom; rw [h8.1, n8, if_pos (nI_lt c8 (by omega))]
        have hne : ¬ nI (cn F 8) = 8 := fun e => by rw [n8, nI_eq (by omega) (by omega)] at e; omega
        have hnb := RR_nb hr0 c8 (p1 := p1) (p2 := p2) a3 a4 b3 b4
        have hz := ((Iv_b h).1.1.1.2.1 (cn F 8)).2 (Nat.le_refl _)
        have i9 : (if (1 : Int32) ≤ p1 then p1 else 1) = p1 := if_pos (i32le.mpr a3)
        -- the class's basin
        have hF : (gX10_newBasin F G p1 p2).2 = (u2 (u2 (u2 (u2 F 9 (cn F 8) p1) 10 (cn F 8) p2) 12 (cn F 8) 100) 8 0 (nI (cn F 8 + 1)), G) := by
          have i11 : u2 (u2 (u2 F 9 (cn F 8) p1) 10 (cn F 8) p2) 11 (cn F 8) 0 = u2 (u2 F 9 (cn F 8) p1) 10 (cn F 8) p2 := by
            have := u2_id (u2 (u2 F 9 (cn F 8) p1) 10 (cn F 8) p2) 11 (cn F 8)
            rwa [u2_other _ (by decide : 11 ≠ 10), u2_other _ (by decide : 11 ≠ 9), hz.1] at this
          have i13 : u2 (u2 (u2 (u2 F 9 (cn F 8) p1) 10 (cn F 8) p2) 12 (cn F 8) 100) 13 (cn F 8) 0 = u2 (u2 (u2 F 9 (cn F 8) p1) 10 (cn F 8) p2) 12 (cn F 8) 100 := by
            have := u2_id (u2 (u2 (u2 F 9 (cn F 8) p1) 10 (cn F 8) p2) 12 (cn F 8) 100) 13 (cn F 8)
            rwa [u2_other _ (by decide : 13 ≠ 12), u2_other _ (by decide : 13 ≠ 10), u2_other _ (by decide : 13 ≠ 9), hz.2.1] at this
          have i14 : u2 G 14 (cn F 8) 0 = G := by
            have := u2_id G 14 (cn F 8)
            rwa [hz.2.2.1] at this
          have i15 : u2 G 15 (cn F 8) 0 = G := by
            have := u2_id G 15 (cn F 8)
            rwa [hz.2.2.2] at this
          unfold gX10_newBasin
          rw [i9, i11, i13, i14, i15, h8.1, nI_1]
        have hF1 : (gX10_newBasin F G p1 p2).1 = F 8 0 := rfl
        have h0 : cn (u2 (u2 (u2 (u2 F 9 (cn F 8) p1) 10 (cn F 8) p2) 12 (cn F 8) 100) 8 0 (nI (cn F 8 + 1))) 0 = cn F 0 := cn_of (by rw [u2_other _ (by decide : 0 ≠ 8), u2_other _ (by decide : 0 ≠ 12), u2_other _ (by decide : 0 ≠ 10), u2_other _ (by decide : 0 ≠ 9)])
        have hok : okV F G 0 p1 p2 0 0 0 := by
          obtain ⟨v0, v1, v2, v3, v4, v5⟩ := cN_v 0 p1 p2 0 0 0
          unfold okV okX5_act
          rw [v0, v1, v2, v3, v4, v5]
          have hv : ∀ j, j < 6 → vp_in (0 + nI j) 3078 := fun j hj => by rw [show (0 : Int32) + nI j = nI j from Int32.zero_add _]; exact nI_in (by omega) (by omega)
          have hlk := lK_of hN (Iv_b h).1.1.2.2.1.2.2
          simp only [bvd]
          refine ⟨fun _ => trivial, fun _ => ⟨fun _ => ⟨hv 1 (by omega), hv 2 (by omega), hv 3 (by omega), hv 4 (by omega), hv 5 (by omega), nI_in (c := 0) (by omega) (by omega), fun _ => ⟨hlk, h8.1, c8⟩, fun e => absurd trivial e⟩, fun _ => trivial⟩⟩
        obtain ⟨M1, m1, m2, m3, m4⟩ := Iv_act (F1 := u2 (u2 (u2 (u2 F 9 (cn F 8) p1) 10 (cn F 8) p2) 12 (cn F 8) 100) 8 0 (nI (cn F 8 + 1))) (G1 := G) h hn 0 p1 p2 0 0 0 hok (by rw [ac_0]; exact hF) (by rw [h0]; exact hnb)
        refine ⟨?_, ?_, Or.inl ⟨F 8 0, _, _, M1, F 8 0, _, _, ?_, ?_, ?_, rfl, m4⟩⟩
        · unfold okX11_addBasin
          rw [bvd]; intro _; rw [bvd]; intro _; rw [bvd]; intro _
          refine ⟨(m1 _).2, ?_⟩
          rw [(m1 _).1, brd]; exact m3
        · unfold okX12_addBasin
          simp only [bvd, a2, b2, e8, hne, u2_at, u2_other _ (show 8 ≠ 60 by decide), u2_other _ (show 8 ≠ 9 by decide), u2_other _ (show 8 ≠ 10 by decide), if_false, if_true, reduceIte]
          have hv8 : vp_in (nI (cn F 8)) 8 := nI_vin c8 (by omega)
          first | exact ⟨fun _ => ⟨hv8, hv8, hv8⟩, fun _ => trivial⟩ | skip
        · unfold gX11_addBasin
          rw [bvd, a1, if_pos rfl, bvd, b1, if_pos rfl, bvd, hroom, if_pos rfl, (m1 _).1, brd, brd]
          show (0, (Int64.toInt32 (gX5_act F G (M1 82) (nI (6 * (M 80 0).toNatClampNeg))).1, ((gX5_act F G (M1 82) (nI (6 * (M 80 0).toNatClampNeg))).2, M1))) = _
          rw [m2, ac_0, hF, hF1, ti32]
        · unfold gX12_addBasin
          simp only [bvd, a2, b2, e8, hne, u2_at, u2_other _ (show 8 ≠ 60 by decide), u2_other _ (show 8 ≠ 9 by decide), u2_other _ (show 8 ≠ 10 by decide), u2_other _ (show 8 ≠ 12 by decide), if_false, if_true, reduceIte, nI_clamp (show cn F 8 < 2 ^ 31 by omega), nI_1, nI_pred]
          first | (rw [h8.1]; rfl) | skip
        · simp only [u2_other _ (show 60 ≠ 8 by decide), u2_other _ (show 60 ≠ 12 by decide), u2_other _ (show 60 ≠ 10 by decide), u2_other _ (show 60 ≠ 9 by decide), u2_at]
      · -- no room
        have e : cn F 8 = 8 := by have := h8.2; omega
        have hroom : gX11_needRoom (F 8 0) 8 = 3 := by unfold gX11_needRoom; rw [h8.1, n8, e, if_neg (by decide)]
        have heq : nI (cn F 8) = 8 := by rw [e]; rfl
        refine ⟨?_, ?_, Or.inr ⟨3, 0, 0, 2, by decide, ?_, ?_, rfl⟩⟩
        · unfold okX11_addBasin
          rw [bvd]; intro _; rw [bvd]; intro _; rw [bvd]; intro e; rw [hroom] at e; exact absurd e (by decide)
        · unfold okX12_addBasin
          simp only [bvd, a2, b2, e8, heq, u2_at, if_false, if_true, reduceIte]
          first | exact ⟨fun h => absurd h (by decide), fun _ => trivial⟩ | skip
        · unfold gX11_addBasin
          rw [bvd, a1, if_pos rfl, bvd, b1, if_pos rfl, bvd, hroom, if_neg (by decide)]
        · unfold gX12_addBasin
          simp only [bvd, a2, b2, e8, heq, u2_at, if_false, if_true, reduceIte]
          first | rfl | skip
    · refine ⟨?_, ?_, Or.inr ⟨2, 0, 0, 1, by decide, ?_, ?_, rfl⟩⟩
      · unfold okX11_addBasin
        rw [bvd]; intro _; rw [bvd]; intro e; rw [b1] at e; exact absurd e (by decide)
      · unfold okX12_addBasin
        simp only [bvd, a2, b2, u2_at, if_false, if_true, reduceIte]
        first | exact ⟨fun h => absurd h (by decide), fun _ => trivial⟩ | skip
      · unfold gX11_addBasin
        rw [bvd, a1, if_pos rfl, bvd, b1, if_neg (by decide)]
      · unfold gX12_addBasin
        simp only [bvd, a2, b2, u2_at, if_false, if_true, reduceIte]
        first | rfl | skip
  · refine ⟨?_, ?_, Or.inr ⟨2, 0, 0, 1, by decide, ?_, ?_, rfl⟩⟩
    · unfold okX11_addBasin
      rw [bvd]; intro e; rw [a1] at e; exact absurd e (by decide)
    · unfold okX12_addBasin
      simp only [bvd, a2, u2_at, if_false, if_true, reduceIte]
      first | exact ⟨fun h => absurd h (by decide), fun _ => trivial⟩ | skip
    · unfold gX11_addBasin
      rw [bvd, a1, if_neg (by decide)]
    · unfold gX12_addBasin
      simp only [bvd, a2, u2_at, if_false, if_true, reduceIte]
      first | rfl | skip
