-- a crew goes, in both
theorem cE_mq {b : Int} {c : Nat} {F FM : jF} {G GM : jG} (h : RR b c F G FM GM) (hd : DR F G) : mEq FM GM (cE F G) (cn F 8) ∧ (∀ x y, cE F G x y = cE F G y x) ∧ ∀ x y, cE F G x y = true → x < cn F 8 ∧ y < cn F 8 := by
  have hE := h.1.1
  have hR := h.2.1.1
  have hG := h.2.1.2
  have hn := hE.1.1.1
  obtain ⟨t1, t2⟩ := h.1.2.2.2.2
  have dn : ∀ x, x < 8 → F 70 x ≠ 0 → x < cn F 8 := fun x hx hne => by
    rw [hd x hx] at hne
    unfold dr at hne
    by_cases cc : x < cn F 8
    · exact cc
    · rw [if_neg cc] at hne; exact absurd rfl hne
  have fr : ∀ x y, x < 8 → y < 8 → (gX8_isFree F G (nI x) (nI y) ≠ 0 ↔ (F 70 x ≠ 0 ∧ F 70 y ≠ 0 ∧ F 16 (8 * x + y) ≠ 0)) := fun x y hx hy => by
    rw [fr_e F G hx hy]
    by_cases c1 : F 70 x = 0
    · rw [if_pos c1]; exact ⟨fun h => absurd rfl h, fun h => absurd c1 h.1⟩
    · rw [if_neg c1]
      by_cases c2 : F 70 y = 0
      · rw [if_pos c2]; exact ⟨fun h => absurd rfl h, fun h => absurd c2 h.2.1⟩
      · rw [if_neg c2]
        by_cases c3 : F 16 (8 * x + y) = 0
        · rw [if_pos c3]; exact ⟨fun h => absurd rfl h, fun h => absurd c3 h.2.2⟩
        · rw [if_neg c3]; exact ⟨fun _ => ⟨c1, c2, c3⟩, fun _ => by decide⟩
  have cut : ∀ x, x < cn F 8 → (F 70 x ≠ 0 ↔ gX12_isCut FM GM (nI x) = 0) := fun x hx => by
    have z100 : (100 : Int64).toInt = 100 := rfl
    rw [hd x (by omega)]
    unfold dr gX12_isCut
    simp only [bvd]
    rw [if_pos hx, af_m hE hR hG hx]
    by_cases c1 : (100 : Int64) ≤ gX0_aboveFloor F G x
    · rw [if_pos c1, if_neg (show ¬ gX0_aboveFloor F G x < 100 by rw [i64lt, z100]; rw [i64le, z100] at c1; omega)]
      exact ⟨fun h => absurd rfl h, fun h => absurd h (by decide)⟩
    · rw [if_neg c1, if_pos (show gX0_aboveFloor F G x < 100 by rw [i64lt, z100]; rw [i64le, z100] at c1; omega)]
      exact ⟨fun _ => rfl, fun _ => by decide⟩
  have cEi : ∀ x y, cE F G x y = true ↔ (x < 8 ∧ y < 8 ∧ F 70 x ≠ 0 ∧ F 70 y ≠ 0 ∧ F 16 (8 * x + y) ≠ 0) := fun x y => by
    unfold cE
    rw [decide_eq_true_iff]
    exact ⟨fun h => ⟨h.1, h.2.1, (fr x y h.1 h.2.1).mp h.2.2⟩, fun h => ⟨h.1, h.2.1, (fr x y h.1 h.2.1).mpr h.2.2⟩⟩
  refine ⟨⟨hn.2, by rw [hR.at 8 (by decide)]; exact hn.1, fun x y hx hy => ?_, fun k hk => ?_⟩, fun x y => ?_, fun x y hxy => ?_⟩
  · rw [cEi, hR.at 16 (by decide), ← cut x hx, ← cut y hy]
    have hj := t1 (8 * x + y)
    constructor
    · rintro ⟨-, -, h1, h2, h3⟩
      refine ⟨?_, h1, h2⟩
      rcases hj with e | e
      · exact absurd e h3
      · exact e
    · rintro ⟨h1, h2, h3⟩
      exact ⟨by omega, by omega, h2, h3, by rw [h1]; decide⟩
  · rw [hR.at 9 (by decide)]
    exact nz64 (i32le.mpr ((hE.2.1 k).1 hk).1.1)
  · have e : cE F G x y = true ↔ cE F G y x = true := by
      rw [cEi, cEi]
      constructor
      · rintro ⟨h1, h2, h3, h4, h5⟩; exact ⟨h2, h1, h4, h3, by rw [t2 y x h2 h1]; exact h5⟩
      · rintro ⟨h1, h2, h3, h4, h5⟩; exact ⟨h2, h1, h4, h3, by rw [t2 x y h2 h1]; exact h5⟩
    cases e1 : cE F G x y <;> cases e2 : cE F G y x <;> first | rfl | (rw [e1, e2] at e; exact absurd e (by decide))
  · rw [cEi] at hxy
    exact ⟨dn x hxy.1 hxy.2.2.1, dn y hxy.2.1 hxy.2.2.2.1⟩
/-- the reference's last look for the next basin -/
theorem m80_e {FM : jF} {GM : jG} {E : Nat → Nat → Bool} {nb a k : Nat} (h : mEq FM GM E nb) (ha : a < nb) (hk : k < 3) (fm : Nat → Int32) (p : Nat → Bool) (hp : ∀ m, m < nb → (p m = true ↔ (E a m = true ∧ fm m = fm a - 1))) (hfar : ¬ 100 ≤ fm a) : ∀ m, m ≤ nb → ∀ (x : Int32) (fuel : Nat), m < fuel → gX12_crews_L80 (nI a) (nI k) (fun (_ : Int32) (F40 : jF) (G41 : jG) => (F40, G41)) fuel (nI m - 1) (u2 (fa FM 59 fm) 49 k x) GM = (u2 (fa FM 59 fm) 49 k (lst p m x), GM) ∧ okX12_crews_L80 (nI a) (nI k) (fun _ _ _ => True) fuel (nI m - 1) (u2 (fa FM 59 fm) 49 k x) GM := by
  obtain ⟨h8, h0, hE, h9⟩ := h
  intro m
  induction m with
  | zero =>
    intro _ x fuel hf
    obtain ⟨n, rfl⟩ : ∃ n, fuel = n + 1 := ⟨fuel - 1, by omega⟩
    have hneg : nI 0 - 1 < 0 := by decide
    constructor
    · rw [gX12_crews_L80, if_pos hneg]; rfl
    · rw [okX12_crews_L80]; exact ⟨fun _ => trivial, fun e => absurd hneg e⟩
  | succ m ih =>
    intro hm x fuel hf
    obtain ⟨n, rfl⟩ : ∃ n, fuel = n + 1 := ⟨fuel - 1, by omega⟩
    have hc : ∀ (y : Int32) j, j < 8 → gX12_isCut (u2 (fa FM 59 fm) 49 k y) GM (nI j) = gX12_isCut FM GM (nI j) := fun y j hj => by
      rw [cut_e _ _ hj, cut_e _ _ hj, u2_other _ (by decide : 10 ≠ 49), u2_other _ (by decide : 9 ≠ 49), u2_other _ (by decide : 12 ≠ 49), fa_o FM fm (by decide : 10 ≠ 59), fa_o FM fm (by decide : 9 ≠ 59), fa_o FM fm (by decide : 12 ≠ 59)]
    have hcok : ∀ (y : Int32) j, j < nb → okX12_isCut (u2 (fa FM 59 fm) 49 k y) GM (nI j) := fun y j hj => cut_ok (by omega) (by rw [u2_other _ (by decide : 9 ≠ 49), fa_o FM fm (by decide : 9 ≠ 59)]; exact h9 j hj)
    have e59 : ∀ y, u2 (fa FM 59 fm) 49 k y 59 = fm := fun y => by rw [u2_other _ (by decide : 59 ≠ 49), fa_at]
    have e16 : ∀ y, u2 (fa FM 59 fm) 49 k y 16 = FM 16 := fun y => by rw [u2_other _ (by decide : 16 ≠ 49), fa_o FM fm (by decide : 16 ≠ 59)]
    have hsub : nI m + (-1) = nI m - 1 := by rw [Int32.sub_eq_add_neg]
    have hv : (if (if FM 16 (8 * a + m) = 1 then (if gX12_isCut FM GM (nI m) = 0 then (if gX12_isCut FM GM (nI a) = 0 then (if fm m = fm a - 1 then (1 : Int32) else 0) else 0) else 0) else 0) = 0 then x else nI m) = (if p m = true then nI m else x) := by
      have hh := hE a m ha (by omega)
      have hpm := hp m (by omega)
      by_cases cp : p m = true
      · obtain ⟨c0, c4⟩ := hpm.mp cp
        obtain ⟨c1, c2, c3⟩ := hh.mp c0
        rw [if_pos cp, if_pos c1, if_pos c3, if_pos c2, if_pos c4, if_neg (show ¬ (1 : Int32) = 0 by decide)]
      · rw [if_neg cp]
        by_cases c1 : FM 16 (8 * a + m) = 1
        · rw [if_pos c1]
          by_cases c3 : gX12_isCut FM GM (nI m) = 0
          · rw [if_pos c3]
            by_cases c2 : gX12_isCut FM GM (nI a) = 0
            · rw [if_pos c2]
              by_cases c4 : fm m = fm a - 1
              · exact absurd (hpm.mpr ⟨hh.mpr ⟨c1, c2, c3⟩, c4⟩) cp
              · rw [if_neg c4, if_pos rfl]
            · rw [if_neg c2, if_pos rfl]
          · rw [if_neg c3, if_pos rfl]
        · rw [if_neg c1, if_pos rfl]
    have ih2 := ih (by omega) (if p m = true then nI m else x) n (by omega)
    rw [← hsub] at ih2
    have hva : vp_in (nI a) 8 := nI_vin (by omega) (by omega)
    have hvm : vp_in (nI m) 8 := nI_vin (by omega) (by omega)
    have hvk : vp_in (nI k) 3 := nI_vin hk (by omega)
    constructor
    · rw [nI_pred, gX12_crews_L80, if_neg (nI_pos (by omega)), nI_clamp (show a < 2 ^ 31 by omega), e59, if_neg hfar]
      simp only [bvd]
      rw [nI_8mul, nI_clamp (show 8 * a + m < 2 ^ 31 by omega), nI_clamp (show m < 2 ^ 31 by omega), nI_clamp (show k < 2 ^ 31 by omega), e16, hc x m (by omega), hc x a (by omega), u2_at, hv, u2_u2]
      exact ih2.1
    · rw [nI_pred, okX12_crews_L80, nI_clamp (show a < 2 ^ 31 by omega), e59]
      simp only [bvd]
      rw [nI_8mul, nI_clamp (show 8 * a + m < 2 ^ 31 by omega), nI_clamp (show m < 2 ^ 31 by omega), nI_clamp (show k < 2 ^ 31 by omega), e16, hc x m (by omega), hc x a (by omega), u2_at, hv, u2_u2]
      exact ⟨fun _ => trivial, fun _ => ⟨hva, fun _ => trivial, fun _ => ⟨nI_vin (by omega) (by omega), ⟨fun _ => ⟨hcok x m (by omega), fun _ => ⟨hcok x a ha, fun _ => ⟨hvm, hva⟩, fun _ => trivial⟩, fun _ => trivial⟩, fun _ => trivial⟩, ⟨fun _ => hvk, fun _ => trivial⟩, hvk, ih2.2⟩⟩⟩
/-- a crew's new place -/
theorem RR_49 {b : Int} {c : Nat} {F FM : jF} {G GM : jG} (h : RR b c F G FM GM) {k j : Nat} (hk : k < 3) (hj : j < 8) : RR b c (u2 F 49 k (nI j)) G (u2 FM 49 k (nI j)) GM := by
  obtain ⟨⟨⟨a1, a2, a3, a4, a5, a6⟩, h2⟩, ⟨h3, h4⟩, h5⟩ := h
  obtain ⟨⟨g1, g2, g3⟩, ⟨g4, g5, g6⟩, g7, g8⟩ := h2
  have n1 : wN (u2 F 49 k (nI j)) := wN_c (ag_off F (by decide) k _) a1
  refine ⟨⟨⟨n1, wB_c (ag_off F (by decide) k _) rfl (fun _ _ => rfl) a2, wL_c (ag_off F (by decide) k _) a3, wS_c (ag_off F (by decide) k _) a4, wO_c (ag_off F (by decide) k _) a5, wZ_c a1 n1 (ag_off F (by decide) k _) (ag_rf _ G) a6⟩, ⟨⟨wG_c (ag_off F (by decide) k _) g1, wP_c (ag_off F (by decide) k _) g2, wD_c (ag_off F (by decide) k _) rfl g3⟩, ⟨wR_c (ag_off F (by decide) k _) g4, fun i hi => ?_, wWk_c (ag_off F (by decide) k _) g6⟩, wM_c (ag_off F (by decide) k _) g7, wT_c (u2_other F (by decide) k _) g8⟩⟩, ⟨ag_u2 h3 49 k rfl, h4⟩, rX_c (ag_off F (by decide) k _) (ag_off FM (by decide) k _) rfl rfl h5⟩
  obtain ⟨w1, w2, w3⟩ := g5 i hi
  rw [u2_same, u2_other F (by decide : 50 ≠ 49), u2_other F (by decide : 64 ≠ 49), cn_of (u2_other F (by decide : 32 ≠ 49) k _)]
  refine ⟨?_, w2, w3⟩
  split
  · exact ⟨j, hj, rfl⟩
  · exact w1
theorem ag_2 {α : Type} {ks : List Nat} {F FM : Nat → Nat → α} (h : ag ks F FM) {k k2 i i2 : Nat} {v v2 : α} (hk : k ∉ ks) (hk2 : k2 ∉ ks := by assumption) : ag ks (u2 F k i v) (u2 FM k2 i2 v2) := by
  intro j hj
  rw [u2_other _ (fun e => hk2 (by rw [← e]; exact hj)), u2_other _ (fun e => hk (by rw [← e]; exact hj))]
  exact h j hj
/-- a bag less -/
theorem RR_50 {b : Int} {c : Nat} {F FM : jF} {G GM : jG} (h : RR b c F G FM GM) {k : Nat} (hk : k < 3) (hb : 1 ≤ (F 50 k).toInt) : RR b c (u2 F 50 k (F 50 k - 1)) G (u2 FM 50 k (F 50 k - 1)) GM := by
  obtain ⟨⟨⟨a1, a2, a3, a4, a5, a6⟩, h2⟩, ⟨h3, h4⟩, h5⟩ := h
  obtain ⟨⟨g1, g2, g3⟩, ⟨g4, g5, g6⟩, g7, g8⟩ := h2
  have z1 : (1 : Int32).toInt = 1 := rfl
  have tb := Int32.toInt_lt (F 50 k)
  have e1 : (F 50 k - 1).toInt = (F 50 k).toInt - 1 := by rw [i32s (by rw [z1]; omega) (by rw [z1]; omega), z1]
  have n1 : wN (u2 F 50 k (F 50 k - 1)) := wN_c (ag_off F (by decide) k _) a1
  have am : ag [38, 51, 52, 53, 54, 55] FM (u2 FM 50 k (F 50 k - 1)) := ag_off FM (by decide) k _
  have ac : ag [62, 64, 65, 66, 67] F (u2 F 50 k (F 50 k - 1)) := ag_off F (by decide) k _
  refine ⟨⟨⟨n1, wB_c (ag_off F (by decide) k _) rfl (fun _ _ => rfl) a2, wL_c (ag_off F (by decide) k _) a3, wS_c (ag_off F (by decide) k _) a4, wO_c (ag_off F (by decide) k _) a5, wZ_c a1 n1 (ag_off F (by decide) k _) (ag_rf _ G) a6⟩, ⟨⟨wG_c (ag_off F (by decide) k _) g1, wP_c (ag_off F (by decide) k _) g2, wD_c (ag_off F (by decide) k _) rfl g3⟩, ⟨wR_c (ag_off F (by decide) k _) g4, fun i hi => ?_, wWk_c (ag_off F (by decide) k _) g6⟩, wM_c (ag_off F (by decide) k _) g7, wT_c (u2_other F (by decide) k _) g8⟩⟩, ⟨ag_2 h3 (by decide) (by decide), h4⟩, ?_⟩
  · obtain ⟨w1, w2, w3⟩ := g5 i hi
    rw [u2_same, u2_other F (by decide : 49 ≠ 50), u2_other F (by decide : 64 ≠ 50), cn_of (u2_other F (by decide : 32 ≠ 50) k _)]
    refine ⟨w1, ?_, w3⟩
    by_cases e : i = k
    · rw [if_pos e, e1]; rw [e] at w2; omega
    · rw [if_neg e]; exact w2
  · obtain ⟨x1, x2, x3, x4, x5, x6⟩ := h5
    unfold rX
    rw [ac.at 62 (by decide), am.at 38 (by decide), am.at 52 (by decide), cn_of (am.at 52 (by decide)), wkM_c (fun j hj => am j (by revert hj; simp; omega)), wkC_c (fun j hj => ac j (by revert hj; simp; omega)), ac.at 64 (by decide), am.at 51 (by decide)]
    refine ⟨x1, x2, fun i hi => ?_, x4, x5, x6⟩
    rw [u2_same, u2_same]
    refine ⟨?_, (x3 i hi).2⟩
    split
    · rfl
    · exact (x3 i hi).1
