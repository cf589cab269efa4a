-- raise
theorem n6 : (6 : Int32) = nI 6 := rfl
def wkL (F : jF) (l : List Nat) : List (Int32 × Int32 × Int32) := (l.filter (fun i => decide (F 65 i ≠ -1))).map (fun i => (F 65 i, F 66 i, F 67 i))
theorem wkL_n {F : jF} {i : Nat} (h : F 65 i = -1) (l : List Nat) : wkL F (i :: l) = wkL F l := by
  unfold wkL
  rw [List.filter_cons_of_neg (by rw [h]; decide)]
theorem wkL_s {F : jF} {i : Nat} (h : ¬ F 65 i = -1) (l : List Nat) : wkL F (i :: l) = (F 65 i, F 66 i, F 67 i) :: wkL F l := by
  unfold wkL
  rw [List.filter_cons_of_pos (by exact decide_eq_true h), List.map_cons]
theorem wkL_0 (F : jF) : wkC F = wkL F (List.range' 0 6) := rfl
theorem op65 {F : jF} (h : wWk F) (hn : cn F 32 ≤ 8) (i : Nat) : (F 65 i = -1 ∧ opi (F 65 i) = none) ∨ ∃ k, k < cn F 32 ∧ F 65 i = nI k ∧ (¬ F 65 i = -1) ∧ opi (F 65 i) = some k := by
  rcases (h i).1 with e | ⟨k, hk, e⟩
  · left
    refine ⟨e, ?_⟩
    unfold opi
    rw [e, if_pos (by decide)]
  · right
    refine ⟨k, hk, e, by rw [e]; exact nI_n1 (by omega), ?_⟩
    unfold opi
    rw [e, if_neg (nI_pos (by omega)), nI_clamp (by omega)]
theorem cw_L {F : jF} (G : jG) (h : wWk F) (hn : cn F 32 ≤ 8) : ∀ d i fuel m : Nat, i + d = 6 → d < fuel → m ≤ i → gX1_countWorks_L4 F G (fun (y5 : Int32) (y6 : Int32) => y6) fuel (nI i) (nI m) = nI (m + (wkL F (List.range' i d)).length) ∧ okX1_countWorks_L4 F G (fun (y5 : Int32) (y6 : Int32) => True) fuel (nI i) (nI m) := by
  intro d
  induction d with
  | zero =>
    intro i fuel m hi hf hm
    obtain ⟨f, rfl⟩ : ∃ f, fuel = f + 1 := ⟨fuel - 1, by omega⟩
    have hi : i = 6 := by omega
    subst hi
    rw [gX1_countWorks_L4, okX1_countWorks_L4, if_pos (show (6 : Int32) ≤ nI 6 from nI_le (Nat.le_refl 6) (by omega))]
    exact ⟨rfl, fun _ => trivial, fun e => absurd (show (6 : Int32) ≤ nI 6 from nI_le (Nat.le_refl 6) (by omega)) e⟩
  | succ d ih =>
    intro i fuel m hi hf hm
    obtain ⟨f, rfl⟩ : ∃ f, fuel = f + 1 := ⟨fuel - 1, by omega⟩
    have hg : ¬ (6 : Int32) ≤ nI i := by rw [n6]; exact nI_ge (by omega) (by omega)
    rw [gX1_countWorks_L4, okX1_countWorks_L4, if_neg hg, List.range'_succ]
    simp only [bvd, nI_clamp (show i < 2 ^ 31 by omega), nI_1]
    rcases op65 h hn i with ⟨e, eo⟩ | ⟨k, hk, e, ne, eo⟩
    · rw [eo, om_n, om_n, wkL_n e]
      obtain ⟨i1, i2⟩ := ih (i + 1) f m (by omega) (by omega) (by omega)
      exact ⟨i1, fun q => absurd q hg, fun _ => ⟨nI_vin (by omega) (by omega), i2⟩⟩
    · rw [eo, om_s, om_s, wkL_s ne]
      obtain ⟨i1, i2⟩ := ih (i + 1) f (m + 1) (by omega) (by omega) (by omega)
      refine ⟨?_, fun q => absurd q hg, fun _ => ⟨nI_vin (by omega) (by omega), i2⟩⟩
      rw [i1, List.length_cons, show m + 1 + (wkL F (List.range' (i + 1) d)).length = m + ((wkL F (List.range' (i + 1) d)).length + 1) by omega]
theorem cw_ok {F : jF} (G : jG) (h : wWk F ∧ cn F 32 ≤ 8) : okX1_countWorks F G := (cw_L G h.1 h.2 6 0 80 0 (by omega) (by omega) (by omega)).2
theorem cw_c {F FM : jF} {GM : jG} (G : jG) (h : wWk F ∧ cn F 32 ≤ 8) (hr : rX F G FM GM) : (gX11_needRoom (gX1_countWorks F G) 6 = 0 ∧ ¬ FM 52 0 = 6 ∧ cn FM 52 < 6) ∨ (gX11_needRoom (gX1_countWorks F G) 6 = 3 ∧ FM 52 0 = 6) := by
  obtain ⟨-, -, -, r1, r2, r3⟩ := hr
  have e1 : gX1_countWorks F G = nI (wkC F).length := by
    rw [wkL_0]
    have := (cw_L G h.1 h.2 6 0 80 0 (by omega) (by omega) (by omega)).1
    rwa [Nat.zero_add] at this
  have e2 : (wkC F).length = cn FM 52 := by
    rw [r3.length_eq]
    unfold wkM
    rw [List.length_map, List.length_range]
  rw [e1, e2, r1]
  unfold gX11_needRoom
  by_cases c : cn FM 52 < 6
  · left
    refine ⟨?_, fun e => ?_, c⟩
    · rw [if_pos (show nI (cn FM 52) < (6 : Int32) by rw [n6]; exact nI_lt c (by omega))]
    · have := (nI_eq (show cn FM 52 < 2 ^ 31 by omega) (show 6 < 2 ^ 31 by omega)).mp e
      omega
  · right
    have e6 : cn FM 52 = 6 := by omega
    rw [e6]
    exact ⟨rfl, rfl⟩
theorem mo_c2 {F : jF} {GM : jG} (G : jG) (e : (F 62 0).toInt64 = GM 2 0) {x : Int32} {y : Int64} (hy : x.toInt64 = y) : (gX11_needMoney F G x = 0 ∧ (¬ GM 2 0 < y) ∧ x.toInt ≤ (F 62 0).toInt) ∨ (gX11_needMoney F G x = 3 ∧ GM 2 0 < y) := by
  rcases mo_c G e hy with ⟨a, b, c⟩ | ⟨a, b⟩
  · exact Or.inl ⟨a, by rw [i64le] at b; rw [i64lt]; omega, c⟩
  · exact Or.inr ⟨a, by rw [i64le] at b; rw [i64lt]; omega⟩
/-- the first empty place -/
theorem bw_L {F : jF} (G : jG) (h : wWk F) (hn : cn F 32 ≤ 8) (j : Nat) (hj : j < cn F 32) (p2 p3 : Int32) (K : Int32 → jF → jG → Int32 × jS) (okK : Int32 → jF → jG → Prop) : ∀ d i fuel : Nat, i + d = 6 → d < fuel → (wkL F (List.range' i d)).length < d → ∃ q, q < 6 ∧ F 65 q = -1 ∧ gX1_beginWork_L3s j p2 p3 K fuel (nI i) F G = (F 62 0 - p2 * 10, (u2 (u2 (u2 (u2 F 65 q (nI j)) 66 q p2) 67 q p3) 62 0 (F 62 0 - p2 * 10), G)) ∧ okX1_beginWork_L3s j p2 p3 okK fuel (nI i) F G := by
  intro d
  induction d with
  | zero => intro i fuel _ _ hl; exact absurd hl (by omega)
  | succ d ih =>
    intro i fuel hi hf hl
    obtain ⟨f, rfl⟩ : ∃ f, fuel = f + 1 := ⟨fuel - 1, by omega⟩
    have hg : ¬ (6 : Int32) ≤ nI i := by rw [n6]; exact nI_ge (by omega) (by omega)
    have hv : vp_in (nI i) 6 := nI_vin (by omega) (by omega)
    rw [gX1_beginWork_L3s, okX1_beginWork_L3s, if_neg hg]
    simp only [bvd, nI_clamp (show i < 2 ^ 31 by omega), nI_1]
    rw [List.range'_succ] at hl
    rcases op65 h hn i with ⟨e, eo⟩ | ⟨k, hk, e, ne, eo⟩
    · refine ⟨i, by omega, e, ?_, fun q => absurd q hg, fun _ => ⟨hv, ?_⟩⟩
      · rw [eo, om_n, u2_at, u2_other _ (by decide : 62 ≠ 67), u2_other _ (by decide : 62 ≠ 66), u2_other _ (by decide : 62 ≠ 65)]
      · rw [eo, om_n]; exact ⟨hv, hj, hv, hv⟩
    · rw [wkL_s ne, List.length_cons] at hl
      obtain ⟨q, q1, q2, q3, q4⟩ := ih (i + 1) f (by omega) (by omega) (by omega)
      refine ⟨q, q1, q2, ?_, fun q => absurd q hg, fun _ => ⟨hv, ?_⟩⟩
      · rw [eo, om_s]; exact q3
      · rw [eo, om_s]; exact q4
theorem wkL_ag {F F1 : jF} {q : Nat} (h : ∀ i, i ≠ q → F1 65 i = F 65 i ∧ F1 66 i = F 66 i ∧ F1 67 i = F 67 i) : ∀ l : List Nat, q ∉ l → wkL F1 l = wkL F l := by
  intro l
  induction l with
  | nil => intro _; rfl
  | cons a l ih =>
    intro hq
    obtain ⟨e1, e2, e3⟩ := h a (fun e => hq (by rw [e]; exact List.mem_cons_self))
    have il := ih (fun e => hq (List.mem_cons_of_mem _ e))
    by_cases c : F 65 a = -1
    · rw [wkL_n c, wkL_n (e1.trans c), il]
    · rw [wkL_s c, wkL_s (fun e => c (e1.symm.trans e)), il, e1, e2, e3]
theorem wkL_new {F F1 : jF} {q : Nat} (h : ∀ i, i ≠ q → F1 65 i = F 65 i ∧ F1 66 i = F 66 i ∧ F1 67 i = F 67 i) (h0 : F 65 q = -1) (h1 : ¬ F1 65 q = -1) : ∀ l : List Nat, l.Nodup → q ∈ l → (wkL F1 l).Perm ((F1 65 q, F1 66 q, F1 67 q) :: wkL F l) := by
  intro l
  induction l with
  | nil => intro _ hq; exact absurd hq List.not_mem_nil
  | cons a l ih =>
    intro hd hq
    rw [List.nodup_cons] at hd
    by_cases c : a = q
    · subst c
      rw [wkL_s h1, wkL_n h0, wkL_ag h l hd.1]
    · have hq2 : q ∈ l := by
        rcases List.mem_cons.mp hq with e | e
        · exact absurd e.symm c
        · exact e
      have il := ih hd.2 hq2
      obtain ⟨e1, e2, e3⟩ := h a c
      by_cases c2 : F 65 a = -1
      · rw [wkL_n c2, wkL_n (e1.trans c2)]; exact il
      · rw [wkL_s c2, wkL_s (fun e => c2 (e1.symm.trans e)), e1, e2, e3]
        exact (il.cons _).trans (List.Perm.swap _ _ _)
theorem RR_raise {b : Int} {c : Nat} {F FM : jF} {G GM : jG} (h : RR b c F G FM GM) {q j : Nat} (hq : q < 6) (h0 : F 65 q = -1) (hj : j < cn F 32) {p2 p3 : Int32} (a1 : 1 ≤ p2.toInt ∧ p2.toInt ≤ 99) (a2 : 1 ≤ p3.toInt ∧ p3.toInt ≤ 9) {m : Nat} (hm : m = cn FM 52) (hm6 : m < 6) : RR b c (u2 (u2 (u2 F 65 q (nI j)) 66 q p2) 67 q p3) G (u2 (u2 (u2 (u2 FM 53 m (nI j)) 54 m p2) 55 m p3) 52 0 (nI (m + 1))) GM := by
  obtain ⟨⟨⟨x1, x2, x3, x4, x5, x6⟩, ⟨g1, g2, g3⟩, ⟨g4, g5, g6⟩, g7, g8⟩, ⟨h3, h4⟩, ⟨r1, r2, r3, r4, r5, r6⟩⟩ := h
  have hn : cn F 32 ≤ 8 := x1.1.2.2.2.2
  have ao : ∀ {ks : List Nat}, 65 ∉ ks → 66 ∉ ks → 67 ∉ ks → ag ks F (u2 (u2 (u2 F 65 q (nI j)) 66 q p2) 67 q p3) := fun q0 q1 q2 => ag_tr (ag_tr (ag_off F q0 q _) (ag_off _ q1 q _)) (ag_off _ q2 q _)
  have am : ∀ {ks : List Nat}, 52 ∉ ks → 53 ∉ ks → 54 ∉ ks → 55 ∉ ks → ag ks FM (u2 (u2 (u2 (u2 FM 53 m (nI j)) 54 m p2) 55 m p3) 52 0 (nI (m + 1))) := fun q0 q1 q2 q3 => ag_tr (ag_tr (ag_tr (ag_off FM q1 m _) (ag_off _ q2 m _)) (ag_off _ q3 m _)) (ag_off _ q0 0 _)
  have n1 : wN (u2 (u2 (u2 F 65 q (nI j)) 66 q p2) 67 q p3) := wN_c (ao (by decide) (by decide) (by decide)) x1
  have a0 : ag [16, 32, 50, 62, 64] F (u2 (u2 (u2 F 65 q (nI j)) 66 q p2) 67 q p3) := ao (by decide) (by decide) (by decide)
  have m0 : ag [38, 50, 51] FM (u2 (u2 (u2 (u2 FM 53 m (nI j)) 54 m p2) 55 m p3) 52 0 (nI (m + 1))) := am (by decide) (by decide) (by decide) (by decide)
  have f65 : ∀ i, u2 (u2 (u2 F 65 q (nI j)) 66 q p2) 67 q p3 65 i = if i = q then nI j else F 65 i := fun i => by rw [u2_other _ (by decide : 65 ≠ 67), u2_other _ (by decide : 65 ≠ 66), u2_same]
  have f66 : ∀ i, u2 (u2 (u2 F 65 q (nI j)) 66 q p2) 67 q p3 66 i = if i = q then p2 else F 66 i := fun i => by rw [u2_other _ (by decide : 66 ≠ 67), u2_same, u2_other _ (by decide : 66 ≠ 65)]
  have f67 : ∀ i, u2 (u2 (u2 F 65 q (nI j)) 66 q p2) 67 q p3 67 i = if i = q then p3 else F 67 i := fun i => by rw [u2_same, u2_other _ (by decide : 67 ≠ 66), u2_other _ (by decide : 67 ≠ 65)]
  have e52 : u2 (u2 (u2 (u2 FM 53 m (nI j)) 54 m p2) 55 m p3) 52 0 (nI (m + 1)) 52 0 = nI (m + 1) := u2_at _ _ _ _
  have c52 : cn (u2 (u2 (u2 (u2 FM 53 m (nI j)) 54 m p2) 55 m p3) 52 0 (nI (m + 1))) 52 = m + 1 := by unfold cn; rw [e52, nI_clamp (by omega)]
  have k53 : ∀ i, u2 (u2 (u2 (u2 FM 53 m (nI j)) 54 m p2) 55 m p3) 52 0 (nI (m + 1)) 53 i = if i = m then nI j else FM 53 i := fun i => by rw [u2_other _ (by decide : 53 ≠ 52), u2_other _ (by decide : 53 ≠ 55), u2_other _ (by decide : 53 ≠ 54), u2_same]
  have k54 : ∀ i, u2 (u2 (u2 (u2 FM 53 m (nI j)) 54 m p2) 55 m p3) 52 0 (nI (m + 1)) 54 i = if i = m then p2 else FM 54 i := fun i => by rw [u2_other _ (by decide : 54 ≠ 52), u2_other _ (by decide : 54 ≠ 55), u2_same, u2_other _ (by decide : 54 ≠ 53)]
  have k55 : ∀ i, u2 (u2 (u2 (u2 FM 53 m (nI j)) 54 m p2) 55 m p3) 52 0 (nI (m + 1)) 55 i = if i = m then p3 else FM 55 i := fun i => by rw [u2_other _ (by decide : 55 ≠ 52), u2_same, u2_other _ (by decide : 55 ≠ 54), u2_other _ (by decide : 55 ≠ 53)]
  refine ⟨⟨⟨n1, wB_c (ao (by decide) (by decide) (by decide)) rfl (fun _ _ => rfl) x2, wL_c (ao (by decide) (by decide) (by decide)) x3, wS_c (ao (by decide) (by decide) (by decide)) x4, wO_c (ao (by decide) (by decide) (by decide)) x5, wZ_c x1 n1 (ao (by decide) (by decide) (by decide)) (ag_rf _ G) x6⟩, ⟨wG_c (ao (by decide) (by decide) (by decide)) g1, wP_c (ao (by decide) (by decide) (by decide)) g2, wD_c (ao (by decide) (by decide) (by decide)) rfl g3⟩, ⟨wR_c (ao (by decide) (by decide) (by decide)) g4, wC_c (ao (by decide) (by decide) (by decide)) g5, fun i => ?_⟩, wM_c (ao (by decide) (by decide) (by decide)) g7, wT_c (a0.at 16 (by decide)) g8⟩, ⟨fun k hk => by rw [am (ks := shF) (by decide) (by decide) (by decide) (by decide) k hk, ao (ks := shF) (by decide) (by decide) (by decide) k hk]; exact h3 k hk, h4⟩, ?_⟩
  · obtain ⟨w1, w2⟩ := g6 i
    rw [cn_of (a0.at 32 (by decide)), f65, f66, f67]
    by_cases e : i = q
    · rw [if_pos e, if_pos e, if_pos e]
      exact ⟨Or.inr ⟨j, hj, rfl⟩, fun _ => ⟨a1, a2⟩⟩
    · rw [if_neg e, if_neg e, if_neg e]
      exact ⟨w1, w2⟩
  · unfold rX
    rw [a0.at 62 (by decide), m0.at 38 (by decide), m0.at 50 (by decide), m0.at 51 (by decide), a0.at 50 (by decide), a0.at 64 (by decide), c52, e52]
    refine ⟨r1, r2, r3, rfl, by omega, ?_⟩
    have p1 := wkL_new (F := F) (F1 := u2 (u2 (u2 F 65 q (nI j)) 66 q p2) 67 q p3) (q := q) (fun i hi => by rw [f65, f66, f67, if_neg hi, if_neg hi, if_neg hi]; exact ⟨rfl, rfl, rfl⟩) h0 (by rw [f65, if_pos rfl]; exact nI_n1 (by omega)) (List.range' 0 6) (by decide) (by rw [List.mem_range'_1]; omega)
    rw [← wkL_0, ← wkL_0, f65, f66, f67, if_pos rfl, if_pos rfl, if_pos rfl] at p1
    refine p1.trans ?_
    have e2 : wkM (u2 (u2 (u2 (u2 FM 53 m (nI j)) 54 m p2) 55 m p3) 52 0 (nI (m + 1))) = wkM FM ++ [(nI j, p2, p3)] := by
      unfold wkM
      rw [c52, List.range_succ, List.map_append, List.map_cons, List.map_nil, k53, k54, k55, if_pos rfl, if_pos rfl, if_pos rfl, ← hm]
      congr 1
      refine List.map_congr_left (fun i hi => ?_)
      have : i < m := List.mem_range.mp hi
      rw [k53, k54, k55, if_neg (by omega), if_neg (by omega), if_neg (by omega)]
    rw [e2]
    exact (r6.cons _).trans (List.perm_append_singleton _ _).symm
theorem x10_i {p : Int32} (a1 : (1 : Int32).toInt ≤ p.toInt) (a2 : p.toInt ≤ (99 : Int32).toInt) : (p * 10).toInt = 10 * p.toInt := by
  have y1 : (1 : Int32).toInt = 1 := rfl
  have y99 : (99 : Int32).toInt = 99 := rfl
  have y10 : (10 : Int32).toInt = 10 := rfl
  rw [i32m (by rw [y10]; omega) (by rw [y10]; omega), y10]; omega
theorem x10_c {p : Int32} (a1 : (1 : Int32).toInt ≤ p.toInt) (a2 : p.toInt ≤ (99 : Int32).toInt) : (p * 10).toInt64 = 10 * p.toInt64 := by
  have y1 : (1 : Int32).toInt = 1 := rfl
  have y99 : (99 : Int32).toInt = 99 := rfl
  have y10 : (10 : Int64).toInt = 10 := rfl
  rw [i64eq, i3264, x10_i a1 a2, i64m (by rw [y10, i3264]; omega) (by rw [y10, i3264]; omega), y10, i3264]
theorem fm_raise {n : Nat} {F F2 : jF} {G G2 : jG} {M FM : jF} {GM : jG} (h : Iv n F G F2 G2 M FM GM) (hn : n < 512) (p1 p2 p3 : Int32) : okX11_raise F G M p1 p2 p3 ∧ okX12_raise FM GM p1 p2 p3 ∧ rM n F G F2 G2 M FM GM (fun x : Int32 => x.toInt64) (fun x : Int32 => x.toInt64) (wk 1 2 3) [1, 2, 3] (gX11_raise F G M p1 p2 p3) (gX12_raise FM GM p1 p2 p3) := by
  have hr0 := Iv_rr h hn 0
  have hrb := (Iv_b h).1
  have hN := hrb.1.1.1
  have hR := hrb.2.1.1
  have hG := hrb.2.1.2
  rcases dy_c G hN hR p1 with ⟨j0, hj0, hj8_0, e1_0, e2_0, e3_0, e4_0⟩ | ⟨e2_0, e3_0, e4_0⟩
  · skip
    rcases nr_c p2 1 99 with ⟨a1_1, a2_1, a3_1, a4_1⟩ | ⟨a1_1, a2_1⟩
    · skip
      rcases nr_c p3 1 9 with ⟨a1_2, a2_2, a3_2, a4_2⟩ | ⟨a1_2, a2_2⟩
      · skip
        rcases mo_c2 G hrb.2.2.1 (x := p2 * 10) (y := 10 * p2.toInt64) (x10_c a3_1 a4_1) with ⟨a1_3, a2_3, a3_3⟩ | ⟨a1_3, a2_3⟩
        · skip
          rcases cw_c G ⟨hrb.1.2.2.1.2.2, hN.1.2.2.2.2⟩ hrb.2.2 with ⟨a1_4, a2_4, a3_4⟩ | ⟨a1_4, a2_4⟩
          · skip
            have hm := (hrb.1.2.2.2.1).1
            have a31 : (1 : Int32).toInt = 1 := rfl
            have a39 : (9 : Int32).toInt = 9 := rfl
            have a399 : (99 : Int32).toInt = 99 := rfl
            have em := x10_i a3_1 a4_1
            have ea : (F 62 0 - p2 * 10).toInt = (F 62 0).toInt - (p2 * 10).toInt := i32s (by omega) (by omega)
            obtain ⟨l1, l2, l3⟩ : FM 52 0 = nI (cn FM 52) ∧ cn FM 52 ≤ 6 ∧ (wkC F).Perm (wkM FM) := hrb.2.2.2.2.2
            have hlen : (wkL F (List.range' 0 6)).length < 6 := by rw [← wkL_0, l3.length_eq]; unfold wkM; rw [List.length_map, List.length_range]; exact a3_4
            obtain ⟨q, hq6, hq0, hbw, hbo⟩ := bw_L G hrb.1.2.2.1.2.2 hN.1.2.2.2.2 j0 hj0 p2 p3 (fun (y24 : Int32) (F25 : jF) (G26 : jG) => ((F25 62 0), (F25, G26))) (fun (y24 : Int32) (F25 : jF) (G26 : jG) => True) 6 0 80 (by omega) (by omega) hlen
            have hrr := RR_money (RR_raise hr0 (q := q) (j := j0) hq6 hq0 hj0 (p2 := p2) (p3 := p3) ⟨by omega, by omega⟩ ⟨by omega, by omega⟩ (m := cn FM 52) (cn_of (u2_other FM (by decide : 52 ≠ 60) 0 0)).symm a3_4) (v := F 62 0 - p2 * 10) (by omega) (by omega)
            have e2 : GM 2 0 - 10 * p2.toInt64 = (F 62 0 - p2 * 10).toInt64 := by rw [← hrb.2.2.1, ← x10_c a3_1 a4_1, i64eq, i3264, ea, i64s (by rw [i3264, i3264]; omega) (by rw [i3264, i3264]; omega), i3264, i3264]
            have h0 : cn (u2 (u2 (u2 (u2 F 65 q (nI j0)) 66 q p2) 67 q p3) 62 0 (F 62 0 - p2 * 10)) 0 = cn F 0 := cn_of (by rw [u2_other _ (by decide : 0 ≠ 62), u2_other _ (by decide : 0 ≠ 67), u2_other _ (by decide : 0 ≠ 66), u2_other _ (by decide : 0 ≠ 65)])
            have hs : gX1_beginWork F G (gX5_dykeAt F G p1) p2 p3 = (F 62 0 - p2 * 10, ((u2 (u2 (u2 (u2 F 65 q (nI j0)) 66 q p2) 67 q p3) 62 0 (F 62 0 - p2 * 10)), G)) := by unfold gX1_beginWork; rw [e3_0, om_s]; exact hbw
            have hso : okX1_beginWork F G (gX5_dykeAt F G p1) p2 p3 := by unfold okX1_beginWork; rw [e3_0, om_s]; exact hbo
            obtain ⟨M1, m1, m2, m3, m4⟩ := Iv_act (F1 := (u2 (u2 (u2 (u2 F 65 q (nI j0)) 66 q p2) 67 q p3) 62 0 (F 62 0 - p2 * 10))) (G1 := G) h hn 16 p1 p2 p3 0 0 (ov_16 ⟨da_ok _, hso⟩) (by rw [ac_16, hs]) (by rw [h0]; exact hrr)
            have hv : vp_in (nI (cn FM 52)) 6 := nI_vin a3_4 (by omega)
            have ecl : (nI (cn FM 52)).toNatClampNeg = cn FM 52 := nI_clamp (by omega)
            refine ⟨?_, ?_, Or.inl ⟨(F 62 0 - p2 * 10), _, _, M1, (F 62 0 - p2 * 10), _, _, ?_, ?_, ?_, ?_, m4⟩⟩
            · unfold okX11_raise
              refine ⟨da_ok _, ?_⟩
              rw [e2_0, om_s]
              rw [bvd]; intro _
              rw [bvd]; intro _
              rw [bvd]; intro _
              refine ⟨cw_ok _ ⟨hrb.1.2.2.1.2.2, hN.1.2.2.2.2⟩, ?_⟩
              rw [bvd, bvd]; intro _
              refine ⟨(m1 _).2, ?_⟩
              rw [(m1 _).1, brd]; exact m3
            · unfold okX12_raise
              simp only [bvd, e4_0, a2_1, a2_2, a2_3, a2_4, u2_at, u2_other _ (show 52 ≠ 60 by decide), u2_other _ (show 52 ≠ 53 by decide), u2_other _ (show 52 ≠ 54 by decide), l1, if_false, if_true, reduceIte]
              first | exact ⟨fun _ => ⟨hv, hv, hv⟩, fun _ => trivial⟩ | exact ⟨hv, hv, hv⟩ | skip
            · unfold gX11_raise
              rw [e2_0, om_s, bvd, a1_1, if_pos rfl, bvd, a1_2, if_pos rfl, bvd, a1_3, if_pos rfl, bvd, bvd, a1_4, if_pos rfl, (m1 _).1, brd, brd]
              show (0, (Int64.toInt32 (gX5_act F G (M1 82) (nI (6 * (M 80 0).toNatClampNeg))).1, ((gX5_act F G (M1 82) (nI (6 * (M 80 0).toNatClampNeg))).2, M1))) = _
              rw [m2, ac_16, hs, ti32]
            · unfold gX12_raise
              simp only [bvd, e4_0, a2_1, a2_2, a2_3]
              rw [if_neg a2_4]
              simp only [u2_at, u2_other _ (show 52 ≠ 60 by decide), u2_other _ (show 52 ≠ 53 by decide), u2_other _ (show 52 ≠ 54 by decide), u2_other _ (show 52 ≠ 55 by decide), if_false, if_true, reduceIte, ecl, l1, e2, ti32, nI_1, e1_0]
              rfl
            · simp only [u2_other _ (show 60 ≠ 52 by decide), u2_other _ (show 60 ≠ 53 by decide), u2_other _ (show 60 ≠ 54 by decide), u2_other _ (show 60 ≠ 55 by decide), u2_at]
            · rfl
          · refine ⟨?_, ?_, Or.inr ⟨3, 0, 0, 3, by decide, ?_, ?_, rfl⟩⟩
            · unfold okX11_raise
              refine ⟨da_ok _, ?_⟩
              rw [e2_0, om_s]
              rw [bvd]; intro _
              rw [bvd]; intro _
              rw [bvd]; intro _
              refine ⟨cw_ok _ ⟨hrb.1.2.2.1.2.2, hN.1.2.2.2.2⟩, ?_⟩
              rw [bvd, bvd]; intro e; rw [a1_4] at e; exact absurd e (by decide)
            · unfold okX12_raise
              simp only [bvd, e4_0, a2_1, a2_2, a2_3, a2_4, u2_at, if_false, if_true, reduceIte]
              first | exact ⟨fun h => absurd h (by decide), fun _ => trivial⟩ | exact fun h => absurd h (by decide) | exact ⟨⟨fun _ => trivial, fun _ => ib_ok _ _ _⟩, fun h => absurd h (by decide), fun _ => trivial⟩ | exact ⟨fun h => absurd h (by decide), fun _ => ⟨fun h => absurd h (by decide), fun _ => trivial⟩⟩ | exact ⟨fun _ => ⟨fun h => absurd h (by decide), fun _ => trivial⟩, fun h => absurd rfl h⟩ | exact ⟨fun _ => ⟨fun h => absurd h (by decide), fun _ => trivial⟩, fun h => absurd trivial h⟩ | skip
            · unfold gX11_raise
              rw [e2_0, om_s, bvd, a1_1, if_pos rfl, bvd, a1_2, if_pos rfl, bvd, a1_3, if_pos rfl, bvd, bvd, a1_4, if_neg (by decide)]
            · unfold gX12_raise
              simp only [bvd, e4_0, a2_1, a2_2, a2_3, a2_4, u2_at, if_false, if_true, reduceIte]
              first | rfl | skip
        · refine ⟨?_, ?_, Or.inr ⟨3, 0, 0, 3, by decide, ?_, ?_, rfl⟩⟩
          · unfold okX11_raise
            refine ⟨da_ok _, ?_⟩
            rw [e2_0, om_s]
            rw [bvd]; intro _
            rw [bvd]; intro _
            rw [bvd]; intro e; rw [a1_3] at e; exact absurd e (by decide)
          · unfold okX12_raise
            simp only [bvd, e4_0, a2_1, a2_2, a2_3, u2_at, if_false, if_true, reduceIte]
            first | exact ⟨fun h => absurd h (by decide), fun _ => trivial⟩ | exact fun h => absurd h (by decide) | exact ⟨⟨fun _ => trivial, fun _ => ib_ok _ _ _⟩, fun h => absurd h (by decide), fun _ => trivial⟩ | exact ⟨fun h => absurd h (by decide), fun _ => ⟨fun h => absurd h (by decide), fun _ => trivial⟩⟩ | exact ⟨fun _ => ⟨fun h => absurd h (by decide), fun _ => trivial⟩, fun h => absurd rfl h⟩ | exact ⟨fun _ => ⟨fun h => absurd h (by decide), fun _ => trivial⟩, fun h => absurd trivial h⟩ | skip
          · unfold gX11_raise
            rw [e2_0, om_s, bvd, a1_1, if_pos rfl, bvd, a1_2, if_pos rfl, bvd, a1_3, if_neg (by decide)]
          · unfold gX12_raise
            simp only [bvd, e4_0, a2_1, a2_2, a2_3, u2_at, if_false, if_true, reduceIte]
            first | rfl | skip
      · refine ⟨?_, ?_, Or.inr ⟨2, 0, 0, 2, by decide, ?_, ?_, rfl⟩⟩
        · unfold okX11_raise
          refine ⟨da_ok _, ?_⟩
          rw [e2_0, om_s]
          rw [bvd]; intro _
          rw [bvd]; intro e; rw [a1_2] at e; exact absurd e (by decide)
        · unfold okX12_raise
          simp only [bvd, e4_0, a2_1, a2_2, u2_at, if_false, if_true, reduceIte]
          first | exact ⟨fun h => absurd h (by decide), fun _ => trivial⟩ | exact fun h => absurd h (by decide) | exact ⟨⟨fun _ => trivial, fun _ => ib_ok _ _ _⟩, fun h => absurd h (by decide), fun _ => trivial⟩ | exact ⟨fun h => absurd h (by decide), fun _ => ⟨fun h => absurd h (by decide), fun _ => trivial⟩⟩ | exact ⟨fun _ => ⟨fun h => absurd h (by decide), fun _ => trivial⟩, fun h => absurd rfl h⟩ | exact ⟨fun _ => ⟨fun h => absurd h (by decide), fun _ => trivial⟩, fun h => absurd trivial h⟩ | skip
        · unfold gX11_raise
          rw [e2_0, om_s, bvd, a1_1, if_pos rfl, bvd, a1_2, if_neg (by decide)]
        · unfold gX12_raise
          simp only [bvd, e4_0, a2_1, a2_2, u2_at, if_false, if_true, reduceIte]
          first | rfl | skip
    · refine ⟨?_, ?_, Or.inr ⟨2, 0, 0, 2, by decide, ?_, ?_, rfl⟩⟩
      · unfold okX11_raise
        refine ⟨da_ok _, ?_⟩
        rw [e2_0, om_s]
        rw [bvd]; intro e; rw [a1_1] at e; exact absurd e (by decide)
      · unfold okX12_raise
        simp only [bvd, e4_0, a2_1, u2_at, if_false, if_true, reduceIte]
        first | exact ⟨fun h => absurd h (by decide), fun _ => trivial⟩ | exact fun h => absurd h (by decide) | exact ⟨⟨fun _ => trivial, fun _ => ib_ok _ _ _⟩, fun h => absurd h (by decide), fun _ => trivial⟩ | exact ⟨fun h => absurd h (by decide), fun _ => ⟨fun h => absurd h (by decide), fun _ => trivial⟩⟩ | exact ⟨fun _ => ⟨fun h => absurd h (by decide), fun _ => trivial⟩, fun h => absurd rfl h⟩ | exact ⟨fun _ => ⟨fun h => absurd h (by decide), fun _ => trivial⟩, fun h => absurd trivial h⟩ | skip
      · unfold gX11_raise
        rw [e2_0, om_s, bvd, a1_1, if_neg (by decide)]
      · unfold gX12_raise
        simp only [bvd, e4_0, a2_1, u2_at, if_false, if_true, reduceIte]
        first | rfl | skip
  · refine ⟨?_, ?_, Or.inr ⟨1, 0, 0, 1, by decide, ?_, ?_, rfl⟩⟩
    · unfold okX11_raise
      refine ⟨da_ok _, ?_⟩
      rw [e2_0, om_n]; trivial
    · unfold okX12_raise
      simp only [bvd, e4_0, u2_at, if_false, if_true, reduceIte]
      first | exact ⟨fun h => absurd h (by decide), fun _ => trivial⟩ | exact fun h => absurd h (by decide) | exact ⟨⟨fun _ => trivial, fun _ => ib_ok _ _ _⟩, fun h => absurd h (by decide), fun _ => trivial⟩ | exact ⟨fun h => absurd h (by decide), fun _ => ⟨fun h => absurd h (by decide), fun _ => trivial⟩⟩ | exact ⟨fun _ => ⟨fun h => absurd h (by decide), fun _ => trivial⟩, fun h => absurd rfl h⟩ | exact ⟨fun _ => ⟨fun h => absurd h (by decide), fun _ => trivial⟩, fun h => absurd trivial h⟩ | skip
    · unfold gX11_raise
      rw [e2_0, om_n]
    · unfold gX12_raise
      simp only [bvd, e4_0, u2_at, if_false, if_true, reduceIte]
      first | rfl | skip
