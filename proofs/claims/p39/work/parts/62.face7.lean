-- road
theorem jb_i (c : Prop) [Decidable c] : jb (if c then (1 : Int32) else 0) := by
  split
  · exact Or.inr rfl
  · exact Or.inl rfl
theorem df_c (p q : Int32) : (gX11_needDifferent p q = 0 ∧ ¬ p = q) ∨ (gX11_needDifferent p q = 2 ∧ p = q) := by
  unfold gX11_needDifferent
  by_cases c : p = q
  · rw [if_pos c]; exact Or.inr ⟨rfl, c⟩
  · rw [if_neg c]; exact Or.inl ⟨rfl, c⟩
theorem RR_16 {b : Int} {c : Nat} {F FM : jF} {G GM : jG} (h : RR b c F G FM GM) {i j : Nat} (hi : i < 8) (hj : j < 8) {v : Int32} (hv : jb v) : RR b c (u2 (u2 F 16 (8 * i + j) v) 16 (8 * j + i) v) G (u2 (u2 FM 16 (8 * i + j) v) 16 (8 * j + i) v) GM := by
  obtain ⟨⟨⟨x1, x2, x3, x4, x5, x6⟩, ⟨g1, g2, g3⟩, ⟨g4, g5, g6⟩, g7, g8⟩, ⟨h3, h4⟩, h5⟩ := h
  have ha : ∀ {ks : List Nat}, 16 ∉ ks → ag ks F (u2 (u2 F 16 (8 * i + j) v) 16 (8 * j + i) v) := fun q => ag_tr (ag_off F q _ _) (ag_off _ q _ _)
  have hm : ∀ {ks : List Nat}, 16 ∉ ks → ag ks FM (u2 (u2 FM 16 (8 * i + j) v) 16 (8 * j + i) v) := fun q => ag_tr (ag_off FM q _ _) (ag_off _ q _ _)
  have n1 : wN (u2 (u2 F 16 (8 * i + j) v) 16 (8 * j + i) v) := wN_c (ha (by decide)) x1
  refine ⟨⟨⟨n1, wB_c (ha (by decide)) rfl (fun _ _ => rfl) x2, wL_c (ha (by decide)) x3, wS_c (ha (by decide)) x4, wO_c (ha (by decide)) x5, wZ_c x1 n1 (ha (by decide)) (ag_rf _ G) x6⟩, ⟨wG_c (ha (by decide)) g1, wP_c (ha (by decide)) g2, wD_c (ha (by decide)) rfl g3⟩, ⟨wR_c (ha (by decide)) g4, wC_c (ha (by decide)) g5, wWk_c (ha (by decide)) g6⟩, wM_c (ha (by decide)) g7, ?_⟩, ⟨ag_u2 (ag_u2 h3 16 _ rfl) 16 _ rfl, h4⟩, rX_c (ha (by decide)) (hm (by decide)) rfl rfl h5⟩
  have e : ∀ k, u2 (u2 F 16 (8 * i + j) v) 16 (8 * j + i) v 16 k = if k = 8 * j + i then v else if k = 8 * i + j then v else F 16 k := fun k => by rw [u2_same, u2_same]
  refine ⟨fun k => ?_, fun a d ha hd => ?_⟩
  · rw [e]
    split
    · exact hv
    · split
      · exact hv
      · exact g8.1 k
  · rw [e, e]
    by_cases c1 : 8 * a + d = 8 * j + i
    · rw [if_pos c1, show (if 8 * d + a = 8 * j + i then v else if 8 * d + a = 8 * i + j then v else F 16 (8 * d + a)) = v by split; rfl; rw [if_pos (by omega)]]
    · by_cases c2 : 8 * a + d = 8 * i + j
      · rw [if_neg c1, if_pos c2, if_pos (by omega)]
      · rw [if_neg c1, if_neg c2, if_neg (by omega), if_neg (by omega)]
        exact g8.2 a d ha hd
theorem fm_road {n : Nat} {F F2 : jF} {G G2 : jG} {M FM : jF} {GM : jG} (h : Iv n F G F2 G2 M FM GM) (hn : n < 512) (p1 p2 p3 : Int32) : okX11_road F G M p1 p2 p3 ∧ okX12_road FM GM p1 p2 p3 ∧ rM n F G F2 G2 M FM GM (fun x : Int32 => if x = 0 then (0 : Int64) else 1) (fun x : Int32 => if x = 0 then (0 : Int64) else 1) (wk 1 2 9) [1, 2] (gX11_road F G M p1 p2 p3) (gX12_road FM GM p1 p2 p3) := by
  have hr0 := Iv_rr h hn 0
  have hrb := (Iv_b h).1
  have hN := hrb.1.1.1
  have hR := hrb.2.1.1
  have hG := hrb.2.1.2
  rcases bn_c G GM hN hR p1 with ⟨j0, hj0, hj8_0, e1_0, e2_0, e3_0, e4_0⟩ | ⟨e2_0, e3_0, e4_0⟩
  · skip
    rcases bn_c G GM hN hR p2 with ⟨j1, hj1, hj8_1, e1_1, e2_1, e3_1, e4_1⟩ | ⟨e2_1, e3_1, e4_1⟩
    · skip
      rcases df_c p1 p2 with ⟨a1_2, a2_2⟩ | ⟨a1_2, a2_2⟩
      · skip
        have hjb : jb (if p3 = 0 then (0 : Int32) else 1) := by split; exact Or.inl rfl; exact Or.inr rfl
        have hrr := RR_16 hr0 hj8_0 hj8_1 hjb
        have h0 : cn (u2 (u2 F 16 (8 * j0 + j1) (if p3 = 0 then (0 : Int32) else 1)) 16 (8 * j1 + j0) (if p3 = 0 then (0 : Int32) else 1)) 0 = cn F 0 := cn_of (by rw [u2_other _ (by decide : 0 ≠ 16), u2_other _ (by decide : 0 ≠ 16)])
        have evv : (if (if p3 = 0 then (0 : Int32) else 1) = 0 then (0 : Int32) else 1) = (if p3 = 0 then (0 : Int32) else 1) := by by_cases cc : p3 = 0; rw [if_pos cc, if_pos rfl]; rw [if_neg cc, if_neg (by decide)]
        have i01 : p1 * 8 + p2 = nI (8 * j0 + j1) := by rw [e1_0, e1_1]; exact nI_mul8 _ _
        have i10 : p2 * 8 + p1 = nI (8 * j1 + j0) := by rw [e1_0, e1_1]; exact nI_mul8 _ _
        have m01 : 8 * p1 + p2 = nI (8 * j0 + j1) := by rw [e1_0, e1_1]; exact nI_8mul _ _
        have m10 : 8 * p2 + p1 = nI (8 * j1 + j0) := by rw [e1_0, e1_1]; exact nI_8mul _ _
        have c64 : ∀ k : Nat, k < 64 → (¬ nI k < 0) ∧ (¬ (64 : Int32) ≤ nI k) ∧ (nI k).toNatClampNeg = k ∧ vp_in (nI k) 64 := fun k hk => ⟨nI_pos (by omega), nI_ge (a := k) (b := 64) hk (by omega), nI_clamp (by omega), nI_vin hk (by omega)⟩
        obtain ⟨u1, u2x, u3, u4⟩ := c64 (8 * j0 + j1) (by omega)
        obtain ⟨t1, t2, t3, t4⟩ := c64 (8 * j1 + j0) (by omega)
        have hput : ∀ (F9 : jF) (k : Nat) (v : Int32), k < 64 → gX8_put F9 G (nI k) v = (u2 F9 16 k v, G) := fun F9 k v hk => by obtain ⟨q1, q2, q3, -⟩ := c64 k hk; unfold gX8_put; rw [if_neg q1, if_neg q2, bvd, q3]
        have hputo : ∀ (F9 : jF) (k : Nat) (v : Int32), k < 64 → jb v → okX8_put F9 G (nI k) v := fun F9 k v hk hb => by obtain ⟨q1, q2, q3, q4⟩ := c64 k hk; unfold okX8_put; exact ⟨fun _ => trivial, fun _ => ⟨fun _ => trivial, fun _ => ⟨hb, q4⟩⟩⟩
        have hib : gX8_isBuilt F G p1 p2 = (if F 16 (8 * j0 + j1) = 0 then 0 else 1) := by unfold gX8_isBuilt; rw [bvd, i01, if_neg u1, if_neg u2x, u3]
        have hibo : okX8_isBuilt F G p1 p2 := by unfold okX8_isBuilt; rw [bvd, i01]; exact ⟨fun _ => trivial, fun _ => ⟨fun _ => trivial, fun _ => u4⟩⟩
        have hs : gX8_build F G p1 p2 (if p3 = 0 then (0 : Int32) else 1) = ((if F 16 (8 * j0 + j1) = 0 then 0 else 1), ((u2 (u2 F 16 (8 * j0 + j1) (if p3 = 0 then (0 : Int32) else 1)) 16 (8 * j1 + j0) (if p3 = 0 then (0 : Int32) else 1)), G)) := by unfold gX8_build; rw [hib, bvd, i01, hput _ _ _ (by omega), bsd, i10, hput _ _ _ (by omega), bsd]
        have hbb : jb (if F 16 (8 * j0 + j1) = 0 then (0 : Int32) else 1) := by split; exact Or.inl rfl; exact Or.inr rfl
        have hso : okX8_build F G p1 p2 (if p3 = 0 then (0 : Int32) else 1) := by unfold okX8_build; refine ⟨hibo, ?_⟩; rw [hib, bvd, i01]; refine ⟨hputo _ _ _ (by omega) hjb, ?_⟩; rw [hput _ _ _ (by omega), bsd, i10]; refine ⟨hputo _ _ _ (by omega) hjb, ?_⟩; rw [hput _ _ _ (by omega), bsd]; exact hbb
        obtain ⟨M1, m1, m2, m3, m4⟩ := Iv_act (F1 := (u2 (u2 F 16 (8 * j0 + j1) (if p3 = 0 then (0 : Int32) else 1)) 16 (8 * j1 + j0) (if p3 = 0 then (0 : Int32) else 1))) (G1 := G) h hn 3 p1 p2 (if p3 = 0 then (0 : Int32) else 1) 0 0 (ov_3 (by rw [evv]; exact hso)) (by rw [ac_3, evv, hs]) (by rw [h0]; exact hrr)
        have r16 := hR.at 16 (by decide)
        have hval : (if F 16 (8 * j0 + j1) = 1 then (1 : Int32) else 0) = (if F 16 (8 * j0 + j1) = 0 then 0 else 1) := by rcases hrb.1.2.2.2.2.1 (8 * j0 + j1) with cc | cc <;> rw [cc] <;> rfl
        refine ⟨?_, ?_, Or.inl ⟨(if F 16 (8 * j0 + j1) = 0 then 0 else 1), _, _, M1, (if F 16 (8 * j0 + j1) = 0 then 0 else 1), _, _, ?_, ?_, ?_, ?_, m4⟩⟩
        · unfold okX11_road
          refine ⟨nb_ok _ _ _, ?_⟩
          rw [e2_0, om_s]
          refine ⟨nb_ok _ _ _, ?_⟩
          rw [e2_1, om_s]
          rw [bvd]; intro _
          rw [bvd]
          refine ⟨(m1 _).2, ?_⟩
          rw [(m1 _).1, brd]; exact m3
        · unfold okX12_road
          refine ⟨ib_ok _ _ _, ?_⟩
          simp only [bvd, e4_0, e4_1, a2_2, u2_at, m01, m10, if_false, if_true, reduceIte]
          exact ⟨⟨fun _ => trivial, fun _ => ib_ok _ _ _⟩, fun _ => ⟨u4, u4, t4, jb_i _⟩, fun _ => trivial⟩
        · unfold gX11_road
          rw [e2_0, om_s, e2_1, om_s, bvd, a1_2, if_pos rfl, bvd, (m1 _).1, brd, brd]
          show (if (gX5_act F G (M1 82) (nI (6 * (M 80 0).toNatClampNeg))).1 = 0 then (0, (0, ((gX5_act F G (M1 82) (nI (6 * (M 80 0).toNatClampNeg))).2, M1))) else (0, (1, ((gX5_act F G (M1 82) (nI (6 * (M 80 0).toNatClampNeg))).2, M1)))) = _
          rw [m2, ac_3, evv, hs]
          by_cases cc : F 16 (8 * j0 + j1) = 0
          · rw [if_pos cc]; rfl
          · rw [if_neg cc]; rfl
        · unfold gX12_road
          simp only [bvd, e4_0, e4_1, a2_2, u2_at, u2_other _ (show 16 ≠ 60 by decide), m01, m10, u3, t3, if_false, if_true, reduceIte, r16]
          rw [← hval]
          rfl
        · simp only [u2_other _ (show 60 ≠ 16 by decide), u2_at]
        · rfl
      · refine ⟨?_, ?_, Or.inr ⟨2, 0, 0, 2, by decide, ?_, ?_, rfl⟩⟩
        · unfold okX11_road
          refine ⟨nb_ok _ _ _, ?_⟩
          rw [e2_0, om_s]
          refine ⟨nb_ok _ _ _, ?_⟩
          rw [e2_1, om_s]
          rw [bvd]; intro e; rw [a1_2] at e; exact absurd e (by decide)
        · unfold okX12_road
          refine ⟨ib_ok _ _ _, ?_⟩
          simp only [bvd, e4_0, e4_1, a2_2, u2_at, if_false, if_true, reduceIte]
          first | exact ⟨fun h => absurd h (by decide), fun _ => trivial⟩ | exact fun h => absurd h (by decide) | exact ⟨⟨fun _ => trivial, fun _ => ib_ok _ _ _⟩, fun h => absurd h (by decide), fun _ => trivial⟩ | exact ⟨fun h => absurd h (by decide), fun _ => ⟨fun h => absurd h (by decide), fun _ => trivial⟩⟩ | exact ⟨fun _ => ⟨fun h => absurd h (by decide), fun _ => trivial⟩, fun h => absurd rfl h⟩ | exact ⟨fun _ => ⟨fun h => absurd h (by decide), fun _ => trivial⟩, fun h => absurd trivial h⟩ | skip
        · unfold gX11_road
          rw [e2_0, om_s, e2_1, om_s, bvd, a1_2, if_neg (by decide)]
        · unfold gX12_road
          simp only [bvd, e4_0, e4_1, a2_2, u2_at, if_false, if_true, reduceIte]
          first | rfl | skip
    · refine ⟨?_, ?_, Or.inr ⟨1, 0, 0, 1, by decide, ?_, ?_, rfl⟩⟩
      · unfold okX11_road
        refine ⟨nb_ok _ _ _, ?_⟩
        rw [e2_0, om_s]
        refine ⟨nb_ok _ _ _, ?_⟩
        rw [e2_1, om_n]; trivial
      · unfold okX12_road
        refine ⟨ib_ok _ _ _, ?_⟩
        simp only [bvd, e4_0, e4_1, u2_at, if_false, if_true, reduceIte]
        first | exact ⟨fun h => absurd h (by decide), fun _ => trivial⟩ | exact fun h => absurd h (by decide) | exact ⟨⟨fun _ => trivial, fun _ => ib_ok _ _ _⟩, fun h => absurd h (by decide), fun _ => trivial⟩ | exact ⟨fun h => absurd h (by decide), fun _ => ⟨fun h => absurd h (by decide), fun _ => trivial⟩⟩ | exact ⟨fun _ => ⟨fun h => absurd h (by decide), fun _ => trivial⟩, fun h => absurd rfl h⟩ | exact ⟨fun _ => ⟨fun h => absurd h (by decide), fun _ => trivial⟩, fun h => absurd trivial h⟩ | skip
      · unfold gX11_road
        rw [e2_0, om_s, e2_1, om_n]
      · unfold gX12_road
        simp only [bvd, e4_0, e4_1, u2_at, if_false, if_true, reduceIte]
        first | rfl | skip
  · refine ⟨?_, ?_, Or.inr ⟨1, 0, 0, 1, by decide, ?_, ?_, rfl⟩⟩
    · unfold okX11_road
      refine ⟨nb_ok _ _ _, ?_⟩
      rw [e2_0, om_n]; trivial
    · unfold okX12_road
      refine ⟨ib_ok _ _ _, ?_⟩
      simp only [bvd, e4_0, u2_at, if_false, if_true, reduceIte]
      first | exact ⟨fun h => absurd h (by decide), fun _ => trivial⟩ | exact fun h => absurd h (by decide) | exact ⟨⟨fun _ => trivial, fun _ => ib_ok _ _ _⟩, fun h => absurd h (by decide), fun _ => trivial⟩ | exact ⟨fun h => absurd h (by decide), fun _ => ⟨fun h => absurd h (by decide), fun _ => trivial⟩⟩ | exact ⟨fun _ => ⟨fun h => absurd h (by decide), fun _ => trivial⟩, fun h => absurd rfl h⟩ | exact ⟨fun _ => ⟨fun h => absurd h (by decide), fun _ => trivial⟩, fun h => absurd trivial h⟩ | skip
    · unfold gX11_road
      rw [e2_0, om_n]
    · unfold gX12_road
      simp only [bvd, e4_0, u2_at, if_false, if_true, reduceIte]
      first | rfl | skip
