-- shares: what a basin weighs, in both
def shH (F : jF) (p : Int32) (j : Nat) : Prop := (F 33 j = 20 ∧ F 34 j = p) ∨ (F 33 j = p ∧ F 34 j = 20)
def shJ (F : jF) (p : Int32) (j : Nat) : Prop := j < cn F 32 ∧ shH F p j
theorem jo_e (F : jF) (G : jG) (p : Int32) (j : Nat) : (gX3_joins F G j 20 p = 1 ∧ shH F p j) ∨ (gX3_joins F G j 20 p = 0 ∧ ¬ shH F p j) := by
  unfold gX3_joins
  by_cases c1 : F 33 j = 20
  · rw [if_pos c1]
    by_cases c2 : F 34 j = p
    · rw [if_pos c2]; exact Or.inl ⟨rfl, Or.inl ⟨c1, c2⟩⟩
    · rw [if_neg c2]
      by_cases c3 : F 33 j = p
      · rw [if_pos c3]
        by_cases c4 : F 34 j = 20
        · rw [if_pos c4]; exact Or.inl ⟨rfl, Or.inr ⟨c3, c4⟩⟩
        · rw [if_neg c4]; exact Or.inr ⟨rfl, fun h => h.elim (fun h => c2 h.2) (fun h => c4 h.2)⟩
      · rw [if_neg c3]; exact Or.inr ⟨rfl, fun h => h.elim (fun h => c2 h.2) (fun h => c3 h.1)⟩
  · rw [if_neg c1]
    by_cases c3 : F 33 j = p
    · rw [if_pos c3]
      by_cases c4 : F 34 j = 20
      · rw [if_pos c4]; exact Or.inl ⟨rfl, Or.inr ⟨c3, c4⟩⟩
      · rw [if_neg c4]; exact Or.inr ⟨rfl, fun h => h.elim (fun h => c1 h.1) (fun h => c4 h.2)⟩
    · rw [if_neg c3]; exact Or.inr ⟨rfl, fun h => h.elim (fun h => c1 h.1) (fun h => c3 h.1)⟩
theorem jo_ok {F : jF} {G : jG} {p : Int32} {j : Nat} (hc : j < cn F 32) : okX3_joins F G j 20 p := ⟨hc, fun _ => ⟨hc, fun _ => trivial, fun _ => ⟨hc, fun _ => hc, fun _ => trivial⟩⟩, fun _ => ⟨hc, fun _ => hc, fun _ => trivial⟩⟩
theorem sd_e {F : jF} {G : jG} (h32 : cn F 32 ≤ 8) (p : Int32) : ∀ d i fuel, i + d = 8 → d < fuel → ((gX5_hasSeaDyke_L2 F G p (fun (_ : Int32) => 0) fuel (nI i) = 1 ∧ ∃ j, i ≤ j ∧ shJ F p j) ∨ (gX5_hasSeaDyke_L2 F G p (fun (_ : Int32) => 0) fuel (nI i) = 0 ∧ ∀ j, i ≤ j → ¬ shJ F p j)) ∧ okX5_hasSeaDyke_L2 F G p (fun (_ : Int32) => True) fuel (nI i) := by
  intro d
  induction d with
  | zero =>
    intro i fuel hi hf
    obtain ⟨f, rfl⟩ : ∃ f, fuel = f + 1 := ⟨fuel - 1, by omega⟩
    have hi : i = 8 := hi
    subst hi
    refine ⟨Or.inr ⟨?_, fun j hj h => by have := h.1; omega⟩, ?_⟩
    · rw [gX5_hasSeaDyke_L2, n8, if_pos (nI_le (Nat.le_refl _) (by omega))]
    · rw [okX5_hasSeaDyke_L2, n8]; exact ⟨fun _ => trivial, fun h => absurd (nI_le (Nat.le_refl _) (by omega)) h⟩
  | succ d ih =>
    intro i fuel hi hf
    obtain ⟨f, rfl⟩ : ∃ f, fuel = f + 1 := ⟨fuel - 1, by omega⟩
    obtain ⟨i1, i2⟩ := ih (i + 1) f (by omega) (by omega)
    have hv : vp_in (nI i) 8 := nI_vin (by omega) (by omega)
    have hge : ¬ nI 8 ≤ nI i := nI_ge (by omega) (by omega)
    have next : ¬ shJ F p i → ((gX5_hasSeaDyke_L2 F G p (fun (_ : Int32) => 0) f (nI (i + 1)) = 1 ∧ ∃ j, i ≤ j ∧ shJ F p j) ∨ (gX5_hasSeaDyke_L2 F G p (fun (_ : Int32) => 0) f (nI (i + 1)) = 0 ∧ ∀ j, i ≤ j → ¬ shJ F p j)) := fun hn => by
      rcases i1 with ⟨e, j, j1, j2⟩ | ⟨e, hj⟩
      · exact Or.inl ⟨e, j, by omega, j2⟩
      · refine Or.inr ⟨e, fun j j1 => ?_⟩
        by_cases ej : j = i
        · rw [ej]; exact hn
        · exact hj j (by omega)
    rw [gX5_hasSeaDyke_L2, okX5_hasSeaDyke_L2, n8, if_neg hge, bvd, nI_clamp (show i < 2 ^ 31 by omega), nI_1]
    by_cases hc : i < cn F 32
    · rw [op_in hc, om_s, bvd, om_s, bvd]
      refine ⟨?_, fun h => absurd h hge, fun _ => ⟨hv, ?_⟩⟩
      · rcases jo_e F G p i with ⟨e, hj⟩ | ⟨e, hj⟩
        · rw [e, if_neg d10]; exact Or.inl ⟨rfl, i, Nat.le_refl _, hc, hj⟩
        · rw [e, if_pos rfl]; exact next (fun h => hj h.2)
      · rw [bvd, om_s]
        refine ⟨hv, ?_⟩
        rw [bvd, om_s]
        refine ⟨hc, jo_ok hc, ?_⟩
        rw [bvd]
        exact ⟨fun _ => i2, fun _ => trivial⟩
    · rw [op_no hc, om_n]
      refine ⟨next (fun h => hc h.1), fun h => absurd h hge, fun _ => ⟨hv, ?_⟩⟩
      rw [bvd, om_n]
      exact i2
def wlS (F : jF) (p : Int32) (i : Nat) (v : Int32) : Int32 := if v = 0 then (if F 33 i = 20 then (if F 34 i = p then 1 else (if F 34 i = 20 then (if F 33 i = p then 1 else 0) else 0)) else (if F 34 i = 20 then (if F 33 i = p then 1 else 0) else 0)) else 1
theorem wl_s (F : jF) (p : Int32) (i : Nat) : (wlS F p i 0 = 1 ∧ shH F p i) ∨ (wlS F p i 0 = 0 ∧ ¬ shH F p i) := by
  unfold wlS
  rw [if_pos rfl]
  by_cases c1 : F 33 i = 20
  · rw [if_pos c1]
    by_cases c2 : F 34 i = p
    · rw [if_pos c2]; exact Or.inl ⟨rfl, Or.inl ⟨c1, c2⟩⟩
    · rw [if_neg c2]
      by_cases c4 : F 34 i = 20
      · rw [if_pos c4]
        by_cases c3 : F 33 i = p
        · rw [if_pos c3]; exact Or.inl ⟨rfl, Or.inr ⟨c3, c4⟩⟩
        · rw [if_neg c3]; exact Or.inr ⟨rfl, fun h => h.elim (fun h => c2 h.2) (fun h => c3 h.1)⟩
      · rw [if_neg c4]; exact Or.inr ⟨rfl, fun h => h.elim (fun h => c2 h.2) (fun h => c4 h.2)⟩
  · rw [if_neg c1]
    by_cases c4 : F 34 i = 20
    · rw [if_pos c4]
      by_cases c3 : F 33 i = p
      · rw [if_pos c3]; exact Or.inl ⟨rfl, Or.inr ⟨c3, c4⟩⟩
      · rw [if_neg c3]; exact Or.inr ⟨rfl, fun h => h.elim (fun h => c1 h.1) (fun h => c3 h.1)⟩
    · rw [if_neg c4]; exact Or.inr ⟨rfl, fun h => h.elim (fun h => c1 h.1) (fun h => c4 h.2)⟩
theorem wl_e {F FM : jF} {GM : jG} (r33 : FM 33 = F 33) (r34 : FM 34 = F 34) (hN : FM 32 0 = nI (cn F 32)) (h8 : cn F 32 ≤ 8) (p : Int32) : ∃ v, ((v = 1 ∧ ∃ j, shJ F p j) ∨ (v = 0 ∧ ∀ j, ¬ shJ F p j)) ∧ (∀ K : Int32 → Int32 → Int64, gX12_weightOf_L4 FM GM p K 80 0 0 = K (nI (cn F 32)) v) ∧ ∀ K : Int32 → Int32 → Prop, K (nI (cn F 32)) v → okX12_weightOf_L4 FM GM p K 80 0 0 := by
  have hi := itrP (wlS F p) (cn F 32) (fun i v => (v = 1 ∧ ∃ j, j < i ∧ shJ F p j) ∨ (v = 0 ∧ ∀ j, j < i → ¬ shJ F p j)) (fun i v hi hp => by
    rcases hp with ⟨e, j, j1, j2⟩ | ⟨e, hj⟩
    · refine Or.inl ⟨?_, j, by omega, j2⟩
      rw [e]; unfold wlS; rw [if_neg d10]
    · rw [e]
      rcases wl_s F p i with ⟨e1, h1⟩ | ⟨e1, h1⟩
      · exact Or.inl ⟨e1, i, by omega, hi, h1⟩
      · refine Or.inr ⟨e1, fun j j1 => ?_⟩
        by_cases ej : j = i
        · rw [ej]; exact fun h => h1 h.2
        · exact hj j (by omega)) (cn F 32) 0 0 (by omega) (Or.inr ⟨rfl, fun j j1 => by omega⟩)
  refine ⟨itr (wlS F p) 0 (cn F 32) 0, ?_, fun K => ?_, fun K hK => ?_⟩
  · rcases hi with ⟨e, j, j1, j2⟩ | ⟨e, hj⟩
    · exact Or.inl ⟨e, j, j2⟩
    · exact Or.inr ⟨e, fun j h => hj j h.1 h⟩
  · have h := lpE (fun n i (v : Int32) => gX12_weightOf_L4 FM GM p K n i v) K (wlS F p) (cn F 32) (fun _ _ => True) (fun n i v hi _ => by
      show gX12_weightOf_L4 FM GM p K (n + 1) (nI i) v = _
      rw [gX12_weightOf_L4, hN, if_neg (nI_ge hi (by omega)), ← nI_1, r33, r34, bvd, nI_clamp (show i < 2 ^ 31 by omega)]
      rfl) (fun _ _ _ _ => trivial) (fun n v _ => by
      show gX12_weightOf_L4 FM GM p K (n + 1) (nI (cn F 32)) v = _
      rw [gX12_weightOf_L4, hN, if_pos (nI_le (Nat.le_refl _) (by omega))]) (cn F 32) 0 80 0 (by omega) (by omega) trivial
    rw [nI_0] at h
    exact h
  · have h := lpO (fun n i (v : Int32) => okX12_weightOf_L4 FM GM p K n i v) K (wlS F p) (cn F 32) (fun _ _ => True) (fun n i v hi _ hq => by
      show okX12_weightOf_L4 FM GM p K (n + 1) (nI i) v
      have hv : vp_in (nI i) 8 := nI_vin (by omega) (by omega)
      rw [← nI_1] at hq
      rw [okX12_weightOf_L4, hN, r33, r34]
      refine ⟨fun h => absurd h (nI_ge hi (by omega)), fun _ => ⟨⟨fun _ => ⟨hv, fun _ => ⟨hv, fun _ => trivial, fun _ => ⟨hv, fun _ => hv, fun _ => trivial⟩⟩, fun _ => ⟨hv, fun _ => hv, fun _ => trivial⟩⟩, fun _ => trivial⟩, ?_⟩⟩
      rw [bvd, nI_clamp (show i < 2 ^ 31 by omega)]
      exact hq) (fun _ _ _ _ => trivial) (fun n v _ hq => by
      show okX12_weightOf_L4 FM GM p K (n + 1) (nI (cn F 32)) v
      rw [okX12_weightOf_L4, hN]
      exact ⟨fun _ => hq, fun h => absurd (nI_le (Nat.le_refl _) (by omega)) h⟩) (cn F 32) 0 80 0 (by omega) (by omega) trivial hK
    rw [nI_0] at h
    exact h
def goS (G : jG) (i : Nat) (v : Int64) : Int64 := if G 57 i < v then v else G 57 i
theorem go_e {F : jF} {G : jG} {y : Nat} (hy : F 1 0 = nI y) (hy20 : y ≤ 20) : gX1_greatestOfAll F G = itr (goS G) 0 y (-9223372036854775808) ∧ okX1_greatestOfAll F G := by
  refine ⟨?_, ?_⟩
  · have h := lpE (fun n i (v : Int64) => gX1_greatestOfAll_L6 F G (fun (_ : Int32) (y : Int64) => y) n i v) (fun _ v => v) (goS G) y (fun _ _ => True) (fun n i v hi _ => by
      show gX1_greatestOfAll_L6 F G (fun (_ : Int32) (y : Int64) => y) (n + 1) (nI i) v = _
      have hg := gi_e (F := F) (G := G) (j := i) (by omega)
      rw [gX1_greatestOfAll_L6, hy, if_neg (nI_ge hi (by omega)), ← nI_1, bvd, bvd, hg.1]
      rfl) (fun _ _ _ _ => trivial) (fun n v _ => by
      show gX1_greatestOfAll_L6 F G (fun (_ : Int32) (y : Int64) => y) (n + 1) (nI y) v = _
      rw [gX1_greatestOfAll_L6, hy, if_pos (nI_le (Nat.le_refl _) (by omega))]) y 0 80 (-9223372036854775808) (by omega) (by omega) trivial
    rw [nI_0] at h
    exact h
  · have h := lpO (fun n i (v : Int64) => okX1_greatestOfAll_L6 F G (fun (_ : Int32) (_ : Int64) => True) n i v) (fun _ _ => True) (goS G) y (fun _ _ => True) (fun n i v hi _ hq => by
      show okX1_greatestOfAll_L6 F G (fun (_ : Int32) (_ : Int64) => True) (n + 1) (nI i) v
      have hg := gi_e (F := F) (G := G) (j := i) (by omega)
      rw [← nI_1] at hq
      rw [okX1_greatestOfAll_L6, hy]
      refine ⟨fun h => absurd h (nI_ge hi (by omega)), fun _ => ⟨hg.2, ?_⟩⟩
      rw [bvd, bvd, hg.1]
      exact hq) (fun _ _ _ _ => trivial) (fun n v _ _ => by
      show okX1_greatestOfAll_L6 F G (fun (_ : Int32) (_ : Int64) => True) (n + 1) (nI y) v
      rw [okX1_greatestOfAll_L6, hy]
      exact ⟨fun _ => trivial, fun h => absurd (nI_le (Nat.le_refl _) (by omega)) h⟩) y 0 80 (-9223372036854775808) (by omega) (by omega) trivial trivial
    rw [nI_0] at h
    exact h
theorem mh_e {FM : jF} {GM : jG} {y : Nat} (hy : FM 1 0 = nI y) (hy20 : y ≤ 20) : (∀ K : Int32 → Int64 → Int64, gX12_heightOf_L6 FM GM K 80 0 (-9223372036854775808) = K (nI y) (itr (goS GM) 0 y (-9223372036854775808))) ∧ okX12_heightOf FM GM := by
  refine ⟨fun K => ?_, ?_⟩
  · have h := lpE (fun n i (v : Int64) => gX12_heightOf_L6 FM GM K n i v) K (goS GM) y (fun _ _ => True) (fun n i v hi _ => by
      show gX12_heightOf_L6 FM GM K (n + 1) (nI i) v = _
      rw [gX12_heightOf_L6, hy, if_neg (nI_ge hi (by omega)), ← nI_1, bvd, nI_clamp (show i < 2 ^ 31 by omega), maxle]
      rfl) (fun _ _ _ _ => trivial) (fun n v _ => by
      show gX12_heightOf_L6 FM GM K (n + 1) (nI y) v = _
      rw [gX12_heightOf_L6, hy, if_pos (nI_le (Nat.le_refl _) (by omega))]) y 0 80 (-9223372036854775808) (by omega) (by omega) trivial
    rw [nI_0] at h
    exact h
  · have h := lpO (fun n i (v : Int64) => okX12_heightOf_L6 FM GM (fun (_ : Int32) (_ : Int64) => True) n i v) (fun _ _ => True) (goS GM) y (fun _ _ => True) (fun n i v hi _ hq => by
      show okX12_heightOf_L6 FM GM (fun (_ : Int32) (_ : Int64) => True) (n + 1) (nI i) v
      have hv : vp_in (nI i) 20 := nI_vin (by omega) (by omega)
      rw [← nI_1] at hq
      rw [okX12_heightOf_L6, hy]
      refine ⟨fun h => absurd h (nI_ge hi (by omega)), fun _ => ⟨hv, ⟨fun _ => trivial, fun _ => hv⟩, ?_⟩⟩
      rw [bvd, nI_clamp (show i < 2 ^ 31 by omega), maxle]
      exact hq) (fun _ _ _ _ => trivial) (fun n v _ _ => by
      show okX12_heightOf_L6 FM GM (fun (_ : Int32) (_ : Int64) => True) (n + 1) (nI y) v
      rw [okX12_heightOf_L6, hy]
      exact ⟨fun _ => trivial, fun h => absurd (nI_le (Nat.le_refl _) (by omega)) h⟩) y 0 80 (-9223372036854775808) (by omega) (by omega) trivial trivial
    rw [nI_0] at h
    exact h
/-- how high the sea is taken to be -/
theorem hs_m {b : Int} {F FM : jF} {G GM : jG} (hE : wE b F G) (hR : ag shF F FM) (hG : ag shG G GM) : ∃ x, gX5_highSea F G = x ∧ gX12_heightOf FM GM = x ∧ (-2100 ≤ x.toInt ∧ x.toInt ≤ 2100) ∧ okX5_highSea F G ∧ okX12_heightOf FM GM := by
  have hN := hE.1
  have hZ := hE.2.2.2.2.2
  have hO := hE.2.2.2.2.1
  have h1 := hN.2.2.2.1
  have e1 : FM 1 0 = nI (cn F 1) := by rw [hR.at 1 (by decide)]; exact h1.1
  have hg := go_e (G := G) h1.1 h1.2
  have hm := mh_e (GM := GM) e1 h1.2
  have eg : goS GM = goS G := by
    funext i v
    unfold goS
    rw [hG.at 57 (by decide)]
  rw [eg] at hm
  obtain ⟨v, hv⟩ : ∃ v, v = itr (goS G) 0 (cn F 1) (-9223372036854775808) := ⟨_, rfl⟩
  rw [← hv] at hg hm
  have hw : wV v := by
    rw [hv]
    exact itrP (goS G) (cn F 1) (fun _ v => wV v) (fun i v _ w => by
      unfold goS
      split
      · exact w
      · exact hZ.2.2.1 i) (cn F 1) 0 _ (by omega) (Or.inl rfl)
  have e5 : (F 5 0 + F 6 0).toInt = (F 5 0).toInt + (F 6 0).toInt := by
    obtain ⟨⟨o1, o2⟩, ⟨o3, o4⟩, -⟩ := hO
    exact i32a (by omega) (by omega)
  have ok1 : okX5_highSea F G := by
    refine ⟨hg.2, ?_⟩
    rw [bvd]
    exact ⟨fun _ => trivial, fun _ => (by decide : ¬ (100 : Int64) = 0)⟩
  have g1 : gX5_highSea F G = if v = -9223372036854775808 then (F 5 0 + F 6 0).toInt64 else gJ9_floorDiv_f86c9 v 100 := by
    unfold gX5_highSea gX6_highTide
    simp only [bvd]
    rw [hg.1]
  have g2 : gX12_heightOf FM GM = if v = -9223372036854775808 then (F 5 0 + F 6 0).toInt64 else gX12_wholes v := by
    unfold gX12_heightOf
    rw [hm.1, hR.at 5 (by decide), hR.at 6 (by decide)]
    simp only [bvd]
  by_cases cm : v = -9223372036854775808
  · rw [if_pos cm] at g1 g2
    obtain ⟨⟨o1, o2⟩, ⟨o3, o4⟩, -⟩ := hO
    exact ⟨_, g1, g2, by rw [i3264, e5]; omega, ok1, hm.2⟩
  · rw [if_neg cm] at g1 g2
    have hb : -200000 ≤ v.toInt ∧ v.toInt ≤ 200000 := by
      rcases hw with w | w
      · exact absurd w cm
      · exact w
    have hf := fd_w (x := v) (by omega) (by omega)
    rw [hf.1] at g1
    exact ⟨_, g1, g2, by rw [hf.2]; omega, ok1, hm.2⟩
/-- the weight of a basin -/
theorem wt_m {b : Int} {F FM : jF} {G GM : jG} (hE : wE b F G) (hR : ag shF F FM) (hG : ag shG G GM) {i : Nat} (hi : i < cn F 8) : ∃ x, gX5_keptDry F G (nI i) = x ∧ gX12_weightOf FM GM (nI i) = x ∧ (0 ≤ x.toInt ∧ x.toInt ≤ 310000) ∧ okX5_keptDry F G (nI i) ∧ okX12_weightOf FM GM (nI i) := by
  have hN := hE.1
  have h8 := hN.1.1
  have h32 := hN.1.2.2.2
  have e32 : FM 32 0 = nI (cn F 32) := by rw [hR.at 32 (by decide)]; exact h32.1
  obtain ⟨⟨ha1, ha2⟩, ⟨hg1, hg2⟩, -⟩ := (hE.2.1 i).1 hi
  have hy : cn F 1 ≤ 20 := hN.2.2.2.1.2
  have z0 : (0 : Int64).toInt = 0 := rfl
  obtain ⟨hs, s1, s2, ⟨s3, s4⟩, s5, s6⟩ := hs_m hE hR hG
  obtain ⟨v, v1, v2, v3⟩ := wl_e (GM := GM) (hR.at 33 (by decide)) (hR.at 34 (by decide)) e32 h32.2 (nI i)
  have hd := sd_e (F := F) (G := G) h32.2 (nI i) 8 0 80 (by omega) (by omega)
  rw [nI_0] at hd
  obtain ⟨d1, d2⟩ := hd
  have hv : vp_in (nI i) 8 := nI_vin (by omega) (by omega)
  have hb := ba_in (F := F) G h8.2 hi
  have hsame : (gX5_hasSeaDyke F G (nI i) = v) ∧ (v = 0 ∨ v = 1) := by
    unfold gX5_hasSeaDyke
    rcases d1 with ⟨e, j, j1, j2⟩ | ⟨e, hj⟩
    · rcases v1 with ⟨w, k, hk⟩ | ⟨w, hk⟩
      · exact ⟨by rw [e, w], Or.inr w⟩
      · exact absurd j2 (hk j)
    · rcases v1 with ⟨w, k, hk⟩ | ⟨w, hk⟩
      · exact absurd hk (hj k (by omega))
      · exact ⟨by rw [e, w], Or.inl w⟩
  have ed : (hs - (F 10 i).toInt64).toInt = hs.toInt - (F 10 i).toInt := by rw [i64s (by rw [i3264]; omega) (by rw [i3264]; omega), i3264]
  have k1 : gX5_keptDry F G (nI i) = if v = 0 then 0 else if 0 < hs - (F 10 i).toInt64 then (hs - (F 10 i).toInt64) * (F 9 i).toInt64 else 0 := by
    unfold gX5_keptDry
    rw [bvd, hb, om_s, bvd, hsame.1, bvd, s1, bvd, bvd]
  have k2 : gX12_weightOf FM GM (nI i) = if v = 0 then 0 else if hs - (F 10 i).toInt64 ≤ 0 then 0 else (F 9 i).toInt64 * (hs - (F 10 i).toInt64) := by
    unfold gX12_weightOf
    rw [v2, bvd, s2, bvd, bvd, nI_clamp (show i < 2 ^ 31 by omega), hR.at 9 (by decide), hR.at 10 (by decide)]
  have ok1 : okX5_keptDry F G (nI i) := by
    unfold okX5_keptDry
    refine ⟨ba_ok _, ?_⟩
    rw [bvd, hb, om_s]
    refine ⟨d2, ?_⟩
    rw [bvd]
    refine ⟨fun _ => trivial, fun _ => ⟨s5, ?_⟩⟩
    rw [bvd]
    refine ⟨hi, ?_⟩
    rw [bvd]
    exact ⟨fun _ => hi, fun _ => trivial⟩
  have ok2 : okX12_weightOf FM GM (nI i) := by
    unfold okX12_weightOf
    refine v3 _ ⟨s6, ?_⟩
    rw [bvd]
    refine ⟨hv, ?_⟩
    rw [bvd]
    exact ⟨fun _ => trivial, fun _ => ⟨fun _ => trivial, fun _ => hv⟩⟩
  rcases hsame.2 with w | w
  · rw [if_pos w] at k1 k2
    exact ⟨_, k1, k2, by rw [z0]; omega, ok1, ok2⟩
  · rw [if_neg (by rw [w]; exact d10)] at k1 k2
    by_cases c : 0 < hs - (F 10 i).toInt64
    · have c2 : ¬ hs - (F 10 i).toInt64 ≤ 0 := by rw [i64le]; rw [i64lt] at c; omega
      rw [if_pos c] at k1
      rw [if_neg c2, Int64.mul_comm] at k2
      rw [i64lt, z0, ed] at c
      have p1 : 0 ≤ (hs.toInt - (F 10 i).toInt) * (F 9 i).toInt := Int.mul_nonneg (by omega) (by omega)
      have p2 : (hs.toInt - (F 10 i).toInt) * (F 9 i).toInt ≤ 3100 * 100 := Int.mul_le_mul (by omega) ha2 (by omega) (by omega)
      have em : ((hs - (F 10 i).toInt64) * (F 9 i).toInt64).toInt = (hs.toInt - (F 10 i).toInt) * (F 9 i).toInt := by
        rw [i64m (by rw [ed, i3264]; omega) (by rw [ed, i3264]; omega), ed, i3264]
      exact ⟨_, k1, k2, by rw [em]; omega, ok1, ok2⟩
    · have c2 : hs - (F 10 i).toInt64 ≤ 0 := by rw [i64le]; rw [i64lt] at c; omega
      rw [if_neg c] at k1
      rw [if_pos c2] at k2
      exact ⟨_, k1, k2, by rw [z0]; omega, ok1, ok2⟩
theorem wt_0 {F : jF} {G : jG} (h8 : cn F 8 ≤ 8) {i : Nat} (hi : ¬ i < cn F 8) (hi8 : i < 8) : gX5_keptDry F G (nI i) = 0 ∧ okX5_keptDry F G (nI i) := by
  have hb : gX10_basinAt F G (nI i) = none := by
    unfold gX10_basinAt
    rw [if_neg (nI_pos (by omega)), n8, if_pos (nI_lt hi8 (by omega)), bvd, nI_clamp (by omega), op_no hi]
  refine ⟨?_, ba_ok _, ?_⟩
  · unfold gX5_keptDry; rw [bvd, hb, om_n]
  · rw [bvd, hb, om_n]; trivial
