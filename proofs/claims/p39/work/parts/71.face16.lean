-- a year's end
theorem va_upv {α : Type} (f : Nat → α) (i : Nat) (v : α) (j : Nat) : va_up f i v j = if j = i then v else f j := va_u f i v j
def snk (i : Nat) (F : jF) : jF := fa F 10 (fun k => if k < i then F 10 k - F 11 k else F 10 k)
theorem snk_0 (F : jF) : snk 0 F = F := by
  unfold snk
  rw [show (fun k => if k < 0 then F 10 k - F 11 k else F 10 k) = F 10 from funext (fun k => if_neg (by omega)), fa_id]
theorem snk_10 (i : Nat) (F : jF) (k : Nat) : snk i F 10 k = if k < i then F 10 k - F 11 k else F 10 k := by
  unfold snk; rw [fa_at]
theorem snk_o (i : Nat) (F : jF) {k : Nat} (h : k ≠ 10) : snk i F k = F k := fa_o F _ h
theorem snk_s (i : Nat) (F : jF) : u2 (snk i F) 10 i (snk i F 10 i - snk i F 11 i) = snk (i + 1) F := by
  rw [snk_10, if_neg (by omega), snk_o i F (by decide : 11 ≠ 10)]
  unfold snk
  rw [fa_u]
  congr 1
  funext k
  rw [va_upv]
  by_cases e : k = i
  · rw [if_pos e, if_pos (by omega), e]
  · rw [if_neg e]
    by_cases c : k < i
    · rw [if_pos c, if_pos (by omega)]
    · rw [if_neg c, if_neg (by omega)]
theorem snk_C (F : jF) (G : jG) (hn : cn F 8 ≤ 8) : ∀ d i fuel : Nat, i + d = 8 → d < fuel → (∀ K : Int32 → jF → jG → jS, gX10_sinkAll_L2 K fuel (nI i) (snk (min i (cn F 8)) F) G = K (nI 8) (snk (cn F 8) F) G) ∧ ∀ K : Int32 → jF → jG → Prop, K (nI 8) (snk (cn F 8) F) G → okX10_sinkAll_L2 K fuel (nI i) (snk (min i (cn F 8)) F) G := by
  intro d
  induction d with
  | zero =>
    intro i fuel hi hf
    obtain ⟨f, rfl⟩ : ∃ f, fuel = f + 1 := ⟨fuel - 1, by omega⟩
    have hi : i = 8 := by omega
    subst hi
    rw [Nat.min_eq_right hn]
    have hl : (8 : Int32) ≤ nI 8 := by rw [n8]; exact nI_le (Nat.le_refl _) (by omega)
    refine ⟨fun K => ?_, fun K hK => ?_⟩
    · rw [gX10_sinkAll_L2, if_pos hl]
    · rw [okX10_sinkAll_L2]
      exact ⟨fun _ => hK, fun e => absurd hl e⟩
  | succ d ih =>
    intro i fuel hi hf
    obtain ⟨f, rfl⟩ : ∃ f, fuel = f + 1 := ⟨fuel - 1, by omega⟩
    have hg : ¬ (8 : Int32) ≤ nI i := by rw [n8]; exact nI_ge (by omega) (by omega)
    have hv : vp_in (nI i) 8 := nI_vin (by omega) (by omega)
    obtain ⟨i1, i2⟩ := ih (i + 1) f (by omega) (by omega)
    have ec : ∀ j, cn (snk j F) 8 = cn F 8 := fun j => cn_of (snk_o j F (by decide))
    by_cases c : i < cn F 8
    · rw [Nat.min_eq_left (by omega)] at i1 i2 ⊢
      refine ⟨fun K => ?_, fun K hK => ?_⟩
      · rw [gX10_sinkAll_L2, if_neg hg]
        simp only [bvd, nI_clamp (show i < 2 ^ 31 by omega), nI_1, ec, op_in c, om_s]
        rw [snk_s]; exact i1 K
      · rw [okX10_sinkAll_L2]
        simp only [bvd, nI_clamp (show i < 2 ^ 31 by omega), nI_1, ec, op_in c, om_s]
        rw [snk_s]
        exact ⟨fun e => absurd e hg, fun _ => ⟨hv, hv, c, hv, c, c, i2 K hK⟩⟩
    · rw [Nat.min_eq_right (by omega)] at i1 i2 ⊢
      refine ⟨fun K => ?_, fun K hK => ?_⟩
      · rw [gX10_sinkAll_L2, if_neg hg]
        simp only [bvd, nI_clamp (show i < 2 ^ 31 by omega), nI_1, ec, op_no c, om_n]
        exact i1 K
      · rw [okX10_sinkAll_L2]
        simp only [bvd, nI_clamp (show i < 2 ^ 31 by omega), nI_1, ec, op_no c, om_n]
        exact ⟨fun e => absurd e hg, fun _ => ⟨hv, i2 K hK⟩⟩
theorem snk_M (F : jF) (G : jG) {N : Nat} (hN : F 8 0 = nI N) (hn : N ≤ 8) : ∀ d i fuel : Nat, i + d = N → d < fuel → (∀ K : Int32 → jF → jG → (Int32 × jS), gX12_endYear_L29 K fuel (nI i) (snk i F) G = K (nI N) (snk N F) G) ∧ ∀ K : Int32 → jF → jG → Prop, K (nI N) (snk N F) G → okX12_endYear_L29 K fuel (nI i) (snk i F) G := by
  intro d
  induction d with
  | zero =>
    intro i fuel hi hf
    obtain ⟨f, rfl⟩ : ∃ f, fuel = f + 1 := ⟨fuel - 1, by omega⟩
    have hi : i = N := by omega
    subst hi
    have hl : snk i F 8 0 ≤ nI i := by rw [snk_o i F (by decide), hN]; exact nI_le (Nat.le_refl _) (by omega)
    refine ⟨fun K => ?_, fun K hK => ?_⟩
    · rw [gX12_endYear_L29, if_pos hl]
    · rw [okX12_endYear_L29]
      exact ⟨fun _ => hK, fun e => absurd hl e⟩
  | succ d ih =>
    intro i fuel hi hf
    obtain ⟨f, rfl⟩ : ∃ f, fuel = f + 1 := ⟨fuel - 1, by omega⟩
    have hg : ¬ snk i F 8 0 ≤ nI i := by rw [snk_o i F (by decide), hN]; exact nI_ge (by omega) (by omega)
    have hv : vp_in (nI i) 8 := nI_vin (by omega) (by omega)
    obtain ⟨i1, i2⟩ := ih (i + 1) f (by omega) (by omega)
    refine ⟨fun K => ?_, fun K hK => ?_⟩
    · rw [gX12_endYear_L29, if_neg hg]
      simp only [bvd, nI_clamp (show i < 2 ^ 31 by omega), nI_1]
      rw [snk_s]; exact i1 K
    · rw [okX12_endYear_L29]
      simp only [bvd, nI_clamp (show i < 2 ^ 31 by omega), nI_1]
      rw [snk_s]
      exact ⟨fun e => absurd e hg, fun _ => ⟨hv, hv, hv, i2 K hK⟩⟩
/-- what the works of a year add to a dyke, and what is left of them -/
def cre (L : List (Int32 × Int32 × Int32)) (k : Nat) (c : Int32) : Int32 := L.foldl (fun a w => if w.1.toNatClampNeg = k ∧ w.2.2 = 1 then a + w.2.1 else a) c
def rmn (L : List (Int32 × Int32 × Int32)) : List (Int32 × Int32 × Int32) := (L.filter (fun w => decide (w.2.2 ≠ 1))).map (fun w => (w.1, w.2.1, w.2.2 - 1))
theorem cre_s (w : Int32 × Int32 × Int32) (L : List (Int32 × Int32 × Int32)) (k : Nat) (c : Int32) : cre (w :: L) k c = cre L k (if w.1.toNatClampNeg = k ∧ w.2.2 = 1 then c + w.2.1 else c) := rfl
theorem cre_p {L L2 : List (Int32 × Int32 × Int32)} (h : L.Perm L2) (k : Nat) : ∀ c, cre L k c = cre L2 k c := by
  induction h with
  | nil => intro c; rfl
  | cons x _ ih => intro c; rw [cre_s, cre_s]; exact ih _
  | swap x y l =>
    intro c
    rw [cre_s, cre_s, cre_s, cre_s]
    congr 1
    by_cases a1 : x.1.toNatClampNeg = k ∧ x.2.2 = 1
    · rw [if_pos a1, if_pos a1]
      by_cases a2 : y.1.toNatClampNeg = k ∧ y.2.2 = 1
      · rw [if_pos a2, if_pos a2, Int32.add_assoc, Int32.add_assoc, Int32.add_comm y.2.1]
      · rw [if_neg a2, if_neg a2]
    · rw [if_neg a1, if_neg a1]
  | trans _ _ ih1 ih2 => intro c; rw [ih1, ih2]
theorem rmn_p {L L2 : List (Int32 × Int32 × Int32)} (h : L.Perm L2) : (rmn L).Perm (rmn L2) := (h.filter _).map _
theorem rmn_n {w : Int32 × Int32 × Int32} (h : w.2.2 = 1) (L : List (Int32 × Int32 × Int32)) : rmn (w :: L) = rmn L := by
  unfold rmn
  rw [List.filter_cons_of_neg (by rw [h]; decide)]
theorem rmn_s {w : Int32 × Int32 × Int32} (h : ¬ w.2.2 = 1) (L : List (Int32 × Int32 × Int32)) : rmn (w :: L) = (w.1, w.2.1, w.2.2 - 1) :: rmn L := by
  unfold rmn
  rw [List.filter_cons_of_pos (by exact decide_eq_true h), List.map_cons]
theorem gw_L (G : jG) : ∀ (d i fuel : Nat) (F : jF), i + d = 6 → d < fuel → wWk F → cn F 32 ≤ 8 → ∃ F' : jF, (∀ K : Int32 → jF → jG → jS, gX1_goOnWithWorks_L2 K fuel (nI i) F G = K (nI 6) F' G) ∧ (∀ K : Int32 → jF → jG → Prop, K (nI 6) F' G → okX1_goOnWithWorks_L2 K fuel (nI i) F G) ∧ (∀ k, k ≠ 35 → k ≠ 65 → k ≠ 67 → F' k = F k) ∧ (∀ j, j < i → F' 65 j = F 65 j ∧ F' 67 j = F 67 j) ∧ wWk F' ∧ (∀ k, F' 35 k = cre (wkL F (List.range' i d)) k (F 35 k)) ∧ wkL F' (List.range' i d) = rmn (wkL F (List.range' i d)) := by
  intro d
  induction d with
  | zero =>
    intro i fuel F hi hf hw hn
    obtain ⟨f, rfl⟩ : ∃ f, fuel = f + 1 := ⟨fuel - 1, by omega⟩
    have hi : i = 6 := by omega
    subst hi
    have hl : (6 : Int32) ≤ nI 6 := by rw [n6]; exact nI_le (Nat.le_refl _) (by omega)
    refine ⟨F, fun K => ?_, fun K hK => ?_, fun _ _ _ _ => rfl, fun _ _ => ⟨rfl, rfl⟩, hw, fun _ => rfl, rfl⟩
    · rw [gX1_goOnWithWorks_L2, if_pos hl]
    · rw [okX1_goOnWithWorks_L2]
      exact ⟨fun _ => hK, fun e => absurd hl e⟩
  | succ d ih =>
    intro i fuel F hi hf hw hn
    obtain ⟨f, rfl⟩ : ∃ f, fuel = f + 1 := ⟨fuel - 1, by omega⟩
    have hg : ¬ (6 : Int32) ≤ nI i := by rw [n6]; exact nI_ge (by omega) (by omega)
    have hv : vp_in (nI i) 6 := nI_vin (by omega) (by omega)
    have ecl : (nI i).toNatClampNeg = i := nI_clamp (by omega)
    have z0 : (0 : Int32).toInt = 0 := rfl
    have z1 : (1 : Int32).toInt = 1 := rfl
    have hni : i ∉ List.range' (i + 1) d := by rw [List.mem_range'_1]; omega
    rw [List.range'_succ]
    rcases op65 hw hn i with ⟨e, eo⟩ | ⟨k0, hk0, e, ne, eo⟩
    · obtain ⟨F', h1, h2, h3, h4, h5, h6, h7⟩ := ih (i + 1) f F (by omega) (by omega) hw hn
      refine ⟨F', fun K => ?_, fun K hK => ?_, h3, fun j hj => h4 j (by omega), h5, ?_, ?_⟩
      · rw [gX1_goOnWithWorks_L2, if_neg hg]
        simp only [bvd, ecl, nI_1]
        rw [eo, om_n]; exact h1 K
      · rw [okX1_goOnWithWorks_L2]
        simp only [bvd, ecl, nI_1]
        rw [eo, om_n]; exact ⟨fun e => absurd e hg, fun _ => ⟨hv, h2 K hK⟩⟩
      · rw [wkL_n e]; exact h6
      · rw [wkL_n e, wkL_n ((h4 i (by omega)).1.trans e)]; exact h7
    · obtain ⟨⟨u1, u2'⟩, u3, u4⟩ := (hw i).2 ne
      have es : (F 67 i - 1).toInt = (F 67 i).toInt - 1 := by rw [i32s (by rw [z1]; omega) (by rw [z1]; omega), z1]
      by_cases c : 0 < F 67 i - 1
      · have c' := c
        rw [i32lt, es, z0] at c'
        have n1 : ¬ F 67 i = 1 := by rw [i32eq, z1]; omega
        obtain ⟨F1, hF1⟩ : ∃ F1, F1 = u2 F 67 i (F 67 i - 1) := ⟨_, rfl⟩
        have f67 : ∀ j, F1 67 j = if j = i then F 67 i - 1 else F 67 j := fun j => by rw [hF1, u2_same]
        have fo : ∀ k, k ≠ 67 → F1 k = F k := fun k hk => by rw [hF1, u2_other F hk]
        have hw1 : wWk F1 := fun j => by
          obtain ⟨w1, w2⟩ := hw j
          rw [cn_of (fo 32 (by decide)), fo 65 (by decide), fo 66 (by decide), f67]
          refine ⟨w1, fun q => ⟨(w2 q).1, ?_⟩⟩
          split
          · omega
          · exact (w2 q).2
        obtain ⟨F', h1, h2, h3, h4, h5, h6, h7⟩ := ih (i + 1) f F1 (by omega) (by omega) hw1 (by rw [cn_of (fo 32 (by decide))]; exact hn)
        have ew : wkL F1 (List.range' (i + 1) d) = wkL F (List.range' (i + 1) d) := wkL_ag (q := i) (fun j hj => ⟨by rw [fo 65 (by decide)], by rw [fo 66 (by decide)], by rw [f67, if_neg hj]⟩) _ hni
        refine ⟨F', fun K => ?_, fun K hK => ?_, fun k q1 q2 q3 => by rw [h3 k q1 q2 q3, fo k q3], fun j hj => ?_, h5, fun k => ?_, ?_⟩
        · rw [gX1_goOnWithWorks_L2, if_neg hg]
          simp only [bvd, ecl, nI_1]
          rw [eo, om_s, u2_at, if_pos c, ← hF1]; exact h1 K
        · rw [okX1_goOnWithWorks_L2]
          simp only [bvd, ecl, nI_1]
          rw [eo, om_s, u2_at, ← hF1]
          exact ⟨fun e => absurd e hg, fun _ => ⟨hv, hv, hv, hv, fun _ => h2 K hK, fun e => absurd c e⟩⟩
        · obtain ⟨q1, q2⟩ := h4 j (by omega)
          rw [q1, q2, fo 65 (by decide), f67, if_neg (by omega)]
          exact ⟨rfl, rfl⟩
        · rw [h6 k, ew, wkL_s ne, cre_s, if_neg (fun q => n1 q.2), fo 35 (by decide)]
        · obtain ⟨q1, q2⟩ := h4 i (by omega)
          rw [wkL_s ne, rmn_s n1, wkL_s (by rw [q1, fo 65 (by decide)]; exact ne), h7, ew, q1, q2, h3 66 (by decide) (by decide) (by decide), fo 65 (by decide), fo 66 (by decide), f67, if_pos rfl]
      · have c' := c
        rw [i32lt, es, z0] at c'
        have n1 : F 67 i = 1 := by rw [i32eq, z1]; omega
        obtain ⟨F1, hF1⟩ : ∃ F1, F1 = u2 (u2 (u2 F 67 i (F 67 i - 1)) 35 k0 (F 35 k0 + F 66 i)) 65 i (-1) := ⟨_, rfl⟩
        have f65 : ∀ j, F1 65 j = if j = i then -1 else F 65 j := fun j => by rw [hF1, u2_same, u2_other _ (by decide : 65 ≠ 35), u2_other _ (by decide : 65 ≠ 67)]
        have f67 : ∀ j, F1 67 j = if j = i then F 67 i - 1 else F 67 j := fun j => by rw [hF1, u2_other _ (by decide : 67 ≠ 65), u2_other _ (by decide : 67 ≠ 35), u2_same]
        have f35 : ∀ j, F1 35 j = if j = k0 then F 35 k0 + F 66 i else F 35 j := fun j => by rw [hF1, u2_other _ (by decide : 35 ≠ 65), u2_same, u2_other _ (by decide : 35 ≠ 67)]
        have fo : ∀ k, k ≠ 35 → k ≠ 65 → k ≠ 67 → F1 k = F k := fun k q1 q2 q3 => by rw [hF1, u2_other _ q2, u2_other _ q1, u2_other _ q3]
        have e32 : cn F1 32 = cn F 32 := cn_of (fo 32 (by decide) (by decide) (by decide))
        have hw1 : wWk F1 := fun j => by
          obtain ⟨w1, w2⟩ := hw j
          rw [e32, f65, fo 66 (by decide) (by decide) (by decide), f67]
          by_cases q : j = i
          · rw [if_pos q]
            exact ⟨Or.inl rfl, fun q => absurd rfl q⟩
          · rw [if_neg q, if_neg q]; exact ⟨w1, w2⟩
        obtain ⟨F', h1, h2, h3, h4, h5, h6, h7⟩ := ih (i + 1) f F1 (by omega) (by omega) hw1 (by rw [e32]; exact hn)
        have ew : wkL F1 (List.range' (i + 1) d) = wkL F (List.range' (i + 1) d) := wkL_ag (q := i) (fun j hj => ⟨by rw [f65, if_neg hj], by rw [fo 66 (by decide) (by decide) (by decide)], by rw [f67, if_neg hj]⟩) _ hni
        have x66 : u2 F 67 i (F 67 i - 1) 66 i = F 66 i := by rw [u2_other F (by decide : 66 ≠ 67)]
        have x35 : u2 F 67 i (F 67 i - 1) 35 k0 = F 35 k0 := by rw [u2_other F (by decide : 35 ≠ 67)]
        have x65 : u2 F 67 i (F 67 i - 1) 65 i = F 65 i := by rw [u2_other F (by decide : 65 ≠ 67)]
        have x32 : cn (u2 F 67 i (F 67 i - 1)) 32 = cn F 32 := cn_of (u2_other F (by decide : 32 ≠ 67) _ _)
        refine ⟨F', fun K => ?_, fun K hK => ?_, fun k q1 q2 q3 => by rw [h3 k q1 q2 q3, fo k q1 q2 q3], fun j hj => ?_, h5, fun k => ?_, ?_⟩
        · rw [gX1_goOnWithWorks_L2, if_neg hg]
          simp only [bvd, ecl, nI_1]
          rw [eo, om_s, u2_at, if_neg c, x65, eo, om_s, x35, x66, ← hF1]; exact h1 K
        · rw [okX1_goOnWithWorks_L2]
          simp only [bvd, ecl, nI_1]
          rw [eo, om_s, u2_at, x65, eo, om_s, x35, x66, ← hF1, x32]
          exact ⟨fun e => absurd e hg, fun _ => ⟨hv, hv, hv, hv, fun e => absurd e c, fun _ => ⟨hv, hk0, hv, hk0, hv, h2 K hK⟩⟩⟩
        · obtain ⟨q1, q2⟩ := h4 j (by omega)
          rw [q1, q2, f65, f67, if_neg (by omega), if_neg (by omega)]
          exact ⟨rfl, rfl⟩
        · have ek : (F 65 i).toNatClampNeg = k0 := by rw [e]; exact nI_clamp (by omega)
          rw [h6 k, ew, wkL_s ne, cre_s, f35]
          by_cases q : k = k0
          · subst q
            rw [if_pos rfl, if_pos ⟨ek, n1⟩]
          · rw [if_neg q, if_neg (fun z => q (z.1.symm.trans ek))]
        · obtain ⟨q1, q2⟩ := h4 i (by omega)
          rw [wkL_s ne, rmn_n n1, wkL_n (by rw [q1, f65, if_pos rfl]), h7, ew]
/-- the same in the reference's list -/
def wmL (F : jF) (l : List Nat) : List (Int32 × Int32 × Int32) := l.map (fun i => (F 53 i, F 54 i, F 55 i))
theorem wmL_0 (F : jF) : wkM F = wmL F (List.range' 0 (cn F 52)) := by
  unfold wkM wmL
  rw [List.range_eq_range']
theorem wmL_ag {F F1 : jF} (l : List Nat) (h : ∀ i, i ∈ l → F1 53 i = F 53 i ∧ F1 54 i = F 54 i ∧ F1 55 i = F 55 i) : wmL F1 l = wmL F l := by
  unfold wmL
  refine List.map_congr_left (fun i hi => ?_)
  obtain ⟨e1, e2, e3⟩ := h i hi
  rw [e1, e2, e3]
theorem ew_L (G : jG) {N : Nat} (hN : N ≤ 6) : ∀ (d i w fuel : Nat) (F : jF), i + d = N → d < fuel → w ≤ i → F 52 0 = nI N → (∀ j, i ≤ j → j < N → (∃ k, k < 8 ∧ F 53 j = nI k) ∧ 1 ≤ (F 55 j).toInt) → ∃ F' : jF, (∀ K : Int32 → Int32 → jF → jG → (Int32 × jS), gX12_endYear_L76 K fuel (nI i) (nI w) F G = K (nI N) (nI (w + (rmn (wmL F (List.range' i d))).length)) F' G) ∧ (∀ K : Int32 → Int32 → jF → jG → Prop, K (nI N) (nI (w + (rmn (wmL F (List.range' i d))).length)) F' G → okX12_endYear_L76 K fuel (nI i) (nI w) F G) ∧ (∀ k, k ≠ 35 → k ≠ 53 → k ≠ 54 → k ≠ 55 → F' k = F k) ∧ (∀ j, j < w → F' 53 j = F 53 j ∧ F' 54 j = F 54 j ∧ F' 55 j = F 55 j) ∧ (∀ k, F' 35 k = cre (wmL F (List.range' i d)) k (F 35 k)) ∧ wmL F' (List.range' w (rmn (wmL F (List.range' i d))).length) = rmn (wmL F (List.range' i d)) := by
  intro d
  induction d with
  | zero =>
    intro i w fuel F hi hf hw h52 hp
    obtain ⟨f, rfl⟩ : ∃ f, fuel = f + 1 := ⟨fuel - 1, by omega⟩
    have hi : i = N := by omega
    subst hi
    have hl : F 52 0 ≤ nI i := by rw [h52]; exact nI_le (Nat.le_refl _) (by omega)
    refine ⟨F, fun K => ?_, fun K hK => ?_, fun _ _ _ _ _ => rfl, fun _ _ => ⟨rfl, rfl, rfl⟩, fun _ => rfl, rfl⟩
    · rw [gX12_endYear_L76, if_pos hl]; rfl
    · rw [okX12_endYear_L76]
      exact ⟨fun _ => hK, fun e => absurd hl e⟩
  | succ d ih =>
    intro i w fuel F hi hf hw h52 hp
    obtain ⟨f, rfl⟩ : ∃ f, fuel = f + 1 := ⟨fuel - 1, by omega⟩
    have hg : ¬ F 52 0 ≤ nI i := by rw [h52]; exact nI_ge (by omega) (by omega)
    have hv : vp_in (nI i) 6 := nI_vin (by omega) (by omega)
    have hvw : vp_in (nI w) 6 := nI_vin (by omega) (by omega)
    have ecl : (nI i).toNatClampNeg = i := nI_clamp (by omega)
    have ecw : (nI w).toNatClampNeg = w := nI_clamp (by omega)
    have z0 : (0 : Int32).toInt = 0 := rfl
    have z1 : (1 : Int32).toInt = 1 := rfl
    obtain ⟨⟨k0, hk0, e53⟩, h55⟩ := hp i (Nat.le_refl _) (by omega)
    have hvk : vp_in (nI k0) 8 := nI_vin hk0 (by omega)
    have eck : (nI k0).toNatClampNeg = k0 := nI_clamp (by omega)
    obtain ⟨t, ht⟩ : ∃ t, t = F 55 i - 1 := ⟨_, rfl⟩
    have es : t.toInt = (F 55 i).toInt - 1 := by rw [ht, i32s (by rw [z1]; omega) (by rw [z1]; have := (F 55 i).toInt_le; have : Int32.maxValue.toInt = 2147483647 := rfl; omega), z1]
    obtain ⟨v, hvd⟩ : ∃ v, v = (if t = 0 then F 54 i else 0) := ⟨_, rfl⟩
    obtain ⟨F1, hF1⟩ : ∃ F1, F1 = u2 (u2 (u2 (u2 (u2 F 55 i t) 35 k0 (F 35 k0 + v)) 53 w (nI k0)) 54 w (F 54 i)) 55 w t := ⟨_, rfl⟩
    have f53 : ∀ j, F1 53 j = if j = w then nI k0 else F 53 j := fun j => by rw [hF1, u2_other _ (by decide : 53 ≠ 55), u2_other _ (by decide : 53 ≠ 54), u2_same, u2_other _ (by decide : 53 ≠ 35), u2_other _ (by decide : 53 ≠ 55)]
    have f54 : ∀ j, F1 54 j = if j = w then F 54 i else F 54 j := fun j => by rw [hF1, u2_other _ (by decide : 54 ≠ 55), u2_same, u2_other _ (by decide : 54 ≠ 53), u2_other _ (by decide : 54 ≠ 35), u2_other _ (by decide : 54 ≠ 55)]
    have f55 : ∀ j, F1 55 j = if j = w then t else if j = i then t else F 55 j := fun j => by rw [hF1, u2_same, u2_other _ (by decide : 55 ≠ 54), u2_other _ (by decide : 55 ≠ 53), u2_other _ (by decide : 55 ≠ 35), u2_same]
    have f35 : ∀ j, F1 35 j = if j = k0 then F 35 k0 + v else F 35 j := fun j => by rw [hF1, u2_other _ (by decide : 35 ≠ 55), u2_other _ (by decide : 35 ≠ 54), u2_other _ (by decide : 35 ≠ 53), u2_same, u2_other _ (by decide : 35 ≠ 55)]
    have fo : ∀ k, k ≠ 35 → k ≠ 53 → k ≠ 54 → k ≠ 55 → F1 k = F k := fun k q1 q2 q3 q4 => by rw [hF1, u2_other _ q4, u2_other _ q3, u2_other _ q2, u2_other _ q1, u2_other _ q4]
    have x53 : u2 F 55 i t 53 i = nI k0 := by rw [u2_other F (by decide : 53 ≠ 55), e53]
    have x35 : u2 F 55 i t 35 k0 = F 35 k0 := by rw [u2_other F (by decide : 35 ≠ 55)]
    have x54 : u2 F 55 i t 54 i = F 54 i := by rw [u2_other F (by decide : 54 ≠ 55)]
    have y53 : u2 (u2 F 55 i t) 35 k0 (F 35 k0 + v) 53 i = nI k0 := by rw [u2_other _ (by decide : 53 ≠ 35), x53]
    have y54 : u2 (u2 (u2 F 55 i t) 35 k0 (F 35 k0 + v)) 53 w (nI k0) 54 i = F 54 i := by rw [u2_other _ (by decide : 54 ≠ 53), u2_other _ (by decide : 54 ≠ 35), x54]
    have y55 : u2 (u2 (u2 (u2 F 55 i t) 35 k0 (F 35 k0 + v)) 53 w (nI k0)) 54 w (F 54 i) 55 i = t := by rw [u2_other _ (by decide : 55 ≠ 54), u2_other _ (by decide : 55 ≠ 53), u2_other _ (by decide : 55 ≠ 35), u2_at]
    have z55 : F1 55 i = t := by rw [f55]; split; rfl; rw [if_pos rfl]
    have stE : ∀ K : Int32 → Int32 → jF → jG → (Int32 × jS), gX12_endYear_L76 K (f + 1) (nI i) (nI w) F G = gX12_endYear_L76 K f (nI (i + 1)) (nI w + (if t ≤ 0 then 0 else 1)) F1 G := fun K => by
      rw [gX12_endYear_L76, if_neg hg]
      simp only [bvd, ecl, ecw, nI_1]
      rw [← ht, u2_at, x53, eck, x35, x54, ← hvd, y53, y54, y55, ← hF1, z55]
    have stO : ∀ K : Int32 → Int32 → jF → jG → Prop, okX12_endYear_L76 K f (nI (i + 1)) (nI w + (if t ≤ 0 then 0 else 1)) F1 G → okX12_endYear_L76 K (f + 1) (nI i) (nI w) F G := fun K hK => by
      rw [okX12_endYear_L76]
      simp only [bvd, ecl, ecw, nI_1]
      rw [← ht, u2_at, x53, eck, x35, x54, ← hvd, y53, y54, y55, ← hF1, z55]
      exact ⟨fun e => absurd e hg, fun _ => ⟨hv, hv, hv, hvk, hv, ⟨fun _ => hv, fun _ => trivial⟩, hvk, hv, hvw, hv, hvw, hv, hvw, hv, hK⟩⟩
    have hp1 : ∀ j, i + 1 ≤ j → j < N → (∃ k, k < 8 ∧ F1 53 j = nI k) ∧ 1 ≤ (F1 55 j).toInt := fun j h1 h2 => by
      rw [f53, f55, if_neg (by omega), if_neg (by omega), if_neg (by omega)]
      exact hp j (by omega) h2
    have ew : wmL F1 (List.range' (i + 1) d) = wmL F (List.range' (i + 1) d) := wmL_ag _ (fun j hj => by
      have := (List.mem_range'_1.mp hj).1
      rw [f53, f54, f55, if_neg (by omega), if_neg (by omega), if_neg (by omega), if_neg (by omega)]
      exact ⟨rfl, rfl, rfl⟩)
    have hcons : wmL F (List.range' i (d + 1)) = (nI k0, F 54 i, F 55 i) :: wmL F (List.range' (i + 1) d) := by
      rw [List.range'_succ]
      unfold wmL
      rw [List.map_cons, e53]
    have h521 : F1 52 0 = nI N := by rw [fo 52 (by decide) (by decide) (by decide) (by decide)]; exact h52
    rw [hcons]
    by_cases c : t ≤ 0
    · have c' := c
      rw [i32le, es, z0] at c'
      have n1 : F 55 i = 1 := by rw [i32eq, z1]; omega
      have nt : t = 0 := by rw [i32eq, es, z0]; omega
      rw [if_pos nt] at hvd
      rw [if_pos c, Int32.add_zero] at stE stO
      obtain ⟨F', h1, h2, h3, h4, h5, h6⟩ := ih (i + 1) w f F1 (by omega) (by omega) (by omega) h521 hp1
      rw [ew] at h1 h2 h5 h6
      rw [rmn_n n1]
      refine ⟨F', fun K => (stE K).trans (h1 K), fun K hK => stO K (h2 K hK), fun k q1 q2 q3 q4 => by rw [h3 k q1 q2 q3 q4, fo k q1 q2 q3 q4], fun j hj => ?_, fun k => ?_, h6⟩
      · obtain ⟨q1, q2, q3⟩ := h4 j hj
        rw [q1, q2, q3, f53, f54, f55, if_neg (by omega), if_neg (by omega), if_neg (by omega), if_neg (by omega)]
        exact ⟨rfl, rfl, rfl⟩
      · rw [h5 k, cre_s, f35]
        by_cases q : k = k0
        · subst q
          rw [if_pos rfl, if_pos ⟨eck, n1⟩, hvd]
        · rw [if_neg q, if_neg (fun z => q (z.1.symm.trans eck))]
    · have c' := c
      rw [i32le, es, z0] at c'
      have n1 : ¬ F 55 i = 1 := by rw [i32eq, z1]; omega
      have nt : ¬ t = 0 := by rw [i32eq, es, z0]; omega
      rw [if_neg nt] at hvd
      rw [if_neg c, nI_1] at stE stO
      obtain ⟨F', h1, h2, h3, h4, h5, h6⟩ := ih (i + 1) (w + 1) f F1 (by omega) (by omega) (by omega) h521 hp1
      rw [ew] at h1 h2 h5 h6
      rw [rmn_s n1, List.length_cons]
      have ea : w + ((rmn (wmL F (List.range' (i + 1) d))).length + 1) = w + 1 + (rmn (wmL F (List.range' (i + 1) d))).length := by omega
      rw [ea]
      refine ⟨F', fun K => (stE K).trans (h1 K), fun K hK => stO K (h2 K hK), fun k q1 q2 q3 q4 => by rw [h3 k q1 q2 q3 q4, fo k q1 q2 q3 q4], fun j hj => ?_, fun k => ?_, ?_⟩
      · obtain ⟨q1, q2, q3⟩ := h4 j (by omega)
        rw [q1, q2, q3, f53, f54, f55, if_neg (by omega), if_neg (by omega), if_neg (by omega), if_neg (by omega)]
        exact ⟨rfl, rfl, rfl⟩
      · rw [h5 k, cre_s, f35, if_neg (show ¬ ((nI k0, F 54 i, F 55 i).1.toNatClampNeg = k ∧ (nI k0, F 54 i, F 55 i).2.2 = 1) from fun z => n1 z.2)]
        by_cases q : k = k0
        · subst q
          rw [if_pos rfl, hvd, Int32.add_zero]
        · rw [if_neg q]
      · obtain ⟨q1, q2, q3⟩ := h4 w (by omega)
        rw [List.range'_succ]
        show (F' 53 w, F' 54 w, F' 55 w) :: wmL F' (List.range' (w + 1) (rmn (wmL F (List.range' (i + 1) d))).length) = _
        rw [h6, q1, q2, q3, f53, f54, f55, if_pos rfl, if_pos rfl, if_pos rfl, ht]
